/-- the banks of the first t cells as bits; none of them twice -/
def zms (f : Int → Int) : Nat → Int
  | 0 => 0
  | t + 1 => zor (zms f t) (zshl 1 (f t))
def zok (f : Int → Int) : Nat → Bool
  | 0 => true
  | t + 1 => zok f t && decide (zw (zand (zms f t) (zshl 1 (f t))) = 0)
theorem zms_s {f : Int → Int} {t : Int} (h : 0 ≤ t) : zms f (t + 1).toNat = zor (zms f t.toNat) (zshl 1 (f t)) := by
  rw [show (t + 1).toNat = t.toNat + 1 by omega, zms, show ((t.toNat : Nat) : Int) = t by omega]
theorem zok_s {f : Int → Int} {t : Int} (h : 0 ≤ t) : zok f (t + 1).toNat = (zok f t.toNat && decide (zw (zand (zms f t.toNat) (zshl 1 (f t))) = 0)) := by
  rw [show (t + 1).toNat = t.toNat + 1 by omega, zok, show ((t.toNat : Nat) : Int) = t by omega]
theorem zok_dn {f : Int → Int} {s t : Nat} (h : s ≤ t) (hs : zok f s = false) : zok f t = false := by
  induction t with
  | zero => rw [show s = 0 by omega] at hs; exact hs
  | succ t ih =>
    by_cases e : s = t + 1
    · rw [← e]; exact hs
    · rw [zok, ih (by omega)]
      rfl
theorem sh_clash {M : zM} {n : Nat} {s l i j : Int} (hn : 1000000 ≤ n) (hl : zLa M l) (h : zsM M s) (hf : zft (M l 0) (M l 1) (M s 0) (M s 1) (M s 2) i j) : qsh_clashesAt n zK0 M s l i j = some (if zok (fun u => zBv (M l 3) (M l 4) (M l 5) (M l 2) (M 3) (i + zrd (M s 0) (M s 2) u) (j + zcx (M s 0) (M s 2) u)) (zsz (M s 0) (M s 1) (M s 2)).toNat then 0 else 1) := by
  have hz := zsz_rg h.2
  have hin := fun {t : Int} => zft_in (t := t) h.2 hf
  have hsz := sh_size h
  have hro := fun {t : Int} => sh_rows (t := t) h
  have hco := fun {t : Int} => sh_cols (t := t) h
  obtain ⟨T, hT⟩ : ∃ T, zsz (M s 0) (M s 1) (M s 2) = T := ⟨_, rfl⟩
  rw [hT] at hz hin hsz hro hco ⊢
  obtain ⟨f, hff⟩ : ∃ f : Int → Int, (fun u => zBv (M l 3) (M l 4) (M l 5) (M l 2) (M 3) (i + zrd (M s 0) (M s 2) u) (j + zcx (M s 0) (M s 2) u)) = f := ⟨_, rfl⟩
  have hfe : ∀ u, zBv (M l 3) (M l 4) (M l 5) (M l 2) (M 3) (i + zrd (M s 0) (M s 2) u) (j + zcx (M s 0) (M s 2) u) = f u := fun u => by rw [← hff]
  rw [hff]
  obtain ⟨l1, l2, l3, l4, l5, l6, l7, l8⟩ := hl
  unfold qsh_clashesAt
  refine zwh_eq (fun s => 0 ≤ s.2 ∧ s.2 ≤ T ∧ zok f s.2.toNat = true ∧ s = (zms f s.2.toNat, s.2)) (fun s => (T - s.2).toNat) ?_ n _ ⟨by simp, by simp; omega, rfl, rfl⟩ (by simp; omega)
  intro s ⟨t0, t1, to, hs⟩
  obtain ⟨t, ht⟩ : ∃ t, s.2 = t := ⟨_, rfl⟩
  rw [ht] at t0 t1 hs to
  subst hs
  try dsimp only
  rw [zgk_ok h.1, Option.bind_some, hsz, Option.bind_some, zw_id (by omega) (by omega), zw_id (x := t) (by omega) (by omega)]
  by_cases hc : T ≤ t
  · right
    rw [if_pos hc, ← show t = T by omega, to]
    rfl
  · obtain ⟨u1, u2⟩ := hin t0 (show t < T by omega)
    rw [if_neg hc, Option.bind_some, hro t0 (by omega), Option.bind_some, Option.bind_some, hco t0 (by omega), Option.bind_some, zgk_ok l1, Option.bind_some, la_bank l1 l2 l3 u1.1 (by omega) u2.1 (by omega), Option.bind_some, hfe, Option.bind_some]
    have e := zok_s (f := f) t0
    rw [to, Bool.true_and] at e
    by_cases c : zw (zand (zms f t.toNat) (zshl 1 (f t))) = 0
    · left
      rw [if_pos c, Option.bind_some]
      refine ⟨_, rfl, ⟨by dsimp only; omega, by dsimp only; omega, ?_, ?_⟩, by dsimp only; omega⟩
      · dsimp only; rw [e]; simp [c]
      · dsimp only; rw [zms_s t0]
    · right
      have e2 : zok f T.toNat = false := zok_dn (s := (t + 1).toNat) (by omega) (by rw [e]; simp [c])
      rw [if_neg c, e2]
      rfl
theorem md_free {Q : zM} {n : Nat} {R C k m d i j : Int} (hn : 1000000 ≤ n) (g : Int → Int → Int) (f : Int → Int) (h7 : Q 60 7 = 62) (R1 : R ≤ 16) (C1 : C ≤ 16) (hg : ∀ x y, 0 ≤ x → x < R → 0 ≤ y → y < C → Q 62 (16 * x + y) = g x y) (h : zsg k m d) (hf : zft R C k m d i j) (hfe : ∀ u, g (i + zrd k d u) (j + zcx k d u) = f u) : qmd_isFree n zK0 Q 60 k m d i j = some (if zok f (zsz k m d).toNat then 1 else 0) := by
  have hz := zsz_rg h
  have hin := fun {t : Int} => zft_in (t := t) h hf
  have hsz : ∀ M : zM, qmd_cellsOf zK0 M k m d = some (zsz k m d) := fun M => md_cellsOf h
  have hca : ∀ (M : zM) t, 0 ≤ t → t < zsz k m d → qmd_cellAt zK0 M k d i j t = _ := fun M t t0 t1 => md_cellAt h t0 t1
  obtain ⟨T, hT⟩ : ∃ T, zsz k m d = T := ⟨_, rfl⟩
  rw [hT] at hz hin hsz hca ⊢
  unfold qmd_isFree
  refine zwh_eq (fun s => 0 ≤ s.2.2 ∧ s.2.2 ≤ T ∧ s = (zms f s.2.2.toNat, (if zok f s.2.2.toNat then 1 else 0), s.2.2)) (fun s => (T - s.2.2).toNat) ?_ n _ ⟨by simp, by simp; omega, rfl⟩ (by simp; omega)
  intro s ⟨t0, t1, hs⟩
  obtain ⟨t, ht⟩ : ∃ t, s.2.2 = t := ⟨_, rfl⟩
  rw [ht] at t0 t1 hs
  subst hs
  try dsimp only
  rw [hsz, Option.bind_some, zw_id (by omega) (by omega), zw_id (x := t) (by omega) (by omega)]
  by_cases hc : T ≤ t
  · right
    rw [if_pos hc, show t = T by omega]
    by_cases c : zok f T.toNat = true
    · simp [c, zbr]
    · simp [c, zbr]
  · rw [if_neg hc]
    by_cases c : zok f t.toNat = true
    · left
      obtain ⟨u1, u2⟩ := hin t0 (show t < T by omega)
      have g1 := hg _ _ u1.1 u1.2 u2.1 u2.2
      rw [hfe] at g1
      obtain ⟨x, hx⟩ : ∃ x, i + zrd k d t = x := ⟨_, rfl⟩
      obtain ⟨y, hy⟩ : ∃ y, j + zcx k d t = y := ⟨_, rfl⟩
      rw [hx] at u1 g1
      rw [hy] at u2 g1
      rw [c, if_pos rfl, if_neg (by decide), hca _ t t0 (by omega), Option.bind_some, hx, hy, zgr_ok (v := 62) rfl h7 (by decide), Option.bind_some, (zde u1.1 (by omega) u2.1 (by omega)).1, (zde u1.1 (by omega) u2.1 (by omega)).2, Option.bind_some, Option.bind_some, show 16 * (x + 256 - 256) + (y + 256) - 256 = 16 * x + y by omega, zga_ok (N := 256) rfl (by decide) (by omega) (by omega), Option.bind_some, g1, Option.bind_some]
      refine ⟨(zms f (t + 1).toNat, (if zok f (t + 1).toNat then 1 else 0), t + 1), ?_, ⟨by dsimp only; omega, by dsimp only; omega, rfl⟩, by dsimp only; omega⟩
      rw [zms_s t0, zok_s t0, c, Bool.true_and]
      by_cases q : zw (zand (zms f t.toNat) (zshl 1 (f t))) = 0
      · simp [q]
      · simp [q]
    · right
      have c' : zok f t.toNat = false := by simpa using c
      have e2 : zok f T.toNat = false := zok_dn (s := t.toNat) (by omega) c'
      rw [c', e2]
      simp [zbr, zwl]
