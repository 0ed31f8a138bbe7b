/-- the tally r of the first t -/
def zta (M : zM) (r : Int) (f : Int → Int) (t : Nat) : zM := fun c x => if c = r ∧ 0 ≤ x ∧ x < 17 then zcn (fun u => decide (f u = x)) t else M c x
theorem zta_ne {M : zM} {r c x : Int} {f : Int → Int} {t : Nat} (h : c ≠ r) : zta M r f t c x = M c x := by
  unfold zta
  rw [if_neg (fun q => h q.1)]
theorem zta_at {M : zM} {r x : Int} {f : Int → Int} {t : Nat} (h0 : 0 ≤ x) (h1 : x < 17) : zta M r f t r x = zcn (fun u => decide (f u = x)) t := by
  unfold zta
  rw [if_pos ⟨rfl, h0, h1⟩]
theorem zta_0 {M : zM} {r : Int} (f : Int → Int) : zfl M r 17 0 = zta M r f 0 := rfl
theorem zta_s {M : zM} {r t v : Int} {f : Int → Int} (t0 : 0 ≤ t) (h0 : 0 ≤ f t) (h1 : f t < 17) (hv : v = zcn (fun u => decide (f u = f t)) t.toNat + 1) : zu (zta M r f t.toNat) r (f t) v = zta M r f (t + 1).toNat := by
  funext c x
  rw [zu_at]
  by_cases q : c = r ∧ x = f t
  · rw [if_pos q, q.1, q.2, zta_at h0 h1, zcn_s t0, hv]
    simp
  · rw [if_neg q]
    unfold zta
    by_cases q1 : c = r ∧ 0 ≤ x ∧ x < 17
    · rw [if_pos q1, if_pos q1, zcn_s t0]
      have : ¬ f t = x := fun e => q ⟨q1.1, e.symm⟩
      simp [this]
    · rw [if_neg q1, if_neg q1]
theorem zkp.ta {P : Int → Int → Bool} {M M1 : zM} {r : Int} {f : Int → Int} {t : Nat} (h : zkp P M M1) (hs : ∀ i, P r i = false) : zkp P M (zta M1 r f t) := by
  intro c x hc
  unfold zta
  rw [if_neg (fun q => by rw [q.1, hs] at hc; cases hc)]
  exact h c x hc
/-- the beats of the first t -/
def zmb (f : Int → Int) : Nat → Int
  | 0 => 0
  | t + 1 => if zmb f t < zcn (fun u => decide (f u = f t)) t + 1 then zcn (fun u => decide (f u = f t)) t + 1 else zmb f t
theorem zmb_s {f : Int → Int} {t : Int} (h : 0 ≤ t) : zmb f (t + 1).toNat = if zmb f t.toNat < zcn (fun u => decide (f u = f t)) t.toNat + 1 then zcn (fun u => decide (f u = f t)) t.toNat + 1 else zmb f t.toNat := by
  rw [show (t + 1).toNat = t.toNat + 1 by omega, zmb, show ((t.toNat : Nat) : Int) = t by omega]
theorem zmb_rg (f : Int → Int) (t : Nat) : 0 ≤ zmb f t ∧ zmb f t ≤ t := by
  induction t with
  | zero => simp [zmb]
  | succ t ih =>
    have := zcn_rg (fun u => decide (f u = f t)) t
    rw [zmb]
    split <;> omega
/-- the same but in the cells that calls do not hold -/
def zeq (r : Int) (M Q : zM) : Prop := ∀ c x, c ≠ r → Q c x = M c x
theorem zLa.cg {M Q : zM} {s : Int} (h : zLa M s) (e : ∀ c x, c = s ∨ c = 3 → Q c x = M c x) : zLa Q s := by
  unfold zLa at *
  rw [e s 6 (Or.inl rfl), e s 3 (Or.inl rfl), e s 4 (Or.inl rfl), e s 5 (Or.inl rfl), e s 2 (Or.inl rfl), e s 0 (Or.inl rfl), e s 1 (Or.inl rfl)]
  obtain ⟨h1, h2, h3, h4, h5, h6, h7, h8⟩ := h
  refine ⟨h1, h2, h3, h4, h5, h6, h7, fun q x x0 x1 => ?_⟩
  rw [e 3 x (Or.inr rfl)]
  exact h8 q x x0 x1
theorem zsM.cg {M Q : zM} {s : Int} (h : zsM M s) (e : ∀ x, Q s x = M s x) : zsM Q s := by
  unfold zsM at *
  rw [e 0, e 1, e 2]
  exact h
theorem zB.cg {M Q : zM} {i j : Int} (e : ∀ c x, c = 2 ∨ c = 3 → Q c x = M c x) : zB Q i j = zB M i j := by
  unfold zB
  rw [e 2 3 (Or.inl rfl), e 2 4 (Or.inl rfl), e 2 5 (Or.inl rfl), e 2 2 (Or.inl rfl), show Q 3 = M 3 from funext fun x => e 3 x (Or.inr rfl)]
theorem zB_rL {M : zM} (h : zLa M 2) {i j : Int} (i0 : 0 ≤ i) (i1 : i < 16) (j0 : 0 ≤ j) (j1 : j < 16) : 0 ≤ zB M i j ∧ zB M i j < 17 := by
  obtain ⟨h1, h2, h3, h4, h5, h6, h7, h8⟩ := h
  have := zBv_rg h3 h8 i0 i1 j0 j1
  unfold zlw at h3
  unfold zB
  omega
/-- the bank of the u-th cell of a shape at i, j -/
def zf (M : zM) (k d i j u : Int) : Int := zB M (i + zrd k d u) (j + zcx k d u)
theorem zf_rg {M : zM} (h : zLa M 2) {k m d i j u : Int} (hg : zsg k m d) (hf : zft (M 2 0) (M 2 1) k m d i j) (u0 : 0 ≤ u) (u1 : u < zsz k m d) : 0 ≤ zf M k d i j u ∧ zf M k d i j u < 17 := by
  have := zft_in hg hf u0 u1
  have h' := h
  obtain ⟨h1, h2, h3, h4, h5, h6, h7, h8⟩ := h'
  exact zB_rL h this.1.1 (by omega) this.2.1 (by omega)
theorem sh_beats {M : zM} {n : Nat} {i j : Int} (hn : 1000000 ≤ n) (hl : zLa M 2) (h : zsM M 5) (hf : zft (M 2 0) (M 2 1) (M 5 0) (M 5 1) (M 5 2) i j) : qsh_beatsAt n zK0 M 5 2 i j 6 = some (zmb (zf M (M 5 0) (M 5 2) i j) (zsz (M 5 0) (M 5 1) (M 5 2)).toNat, zta M 6 (zf M (M 5 0) (M 5 2) i j) (zsz (M 5 0) (M 5 1) (M 5 2)).toNat) := by
  have hz := zsz_rg h.2
  have hfr := fun {u : Int} => zf_rg hl (u := u) h.2 hf
  have hin := fun {t : Int} => zft_in (t := t) h.2 hf
  obtain ⟨T, hT⟩ : ∃ T, zsz (M 5 0) (M 5 1) (M 5 2) = T := ⟨_, rfl⟩
  obtain ⟨f, hff⟩ : ∃ f, zf M (M 5 0) (M 5 2) i j = f := ⟨_, rfl⟩
  have hfe : ∀ u, zB M (i + zrd (M 5 0) (M 5 2) u) (j + zcx (M 5 0) (M 5 2) u) = f u := fun u => by rw [← hff]; rfl
  rw [hff] at hfr
  rw [hT] at hz hfr hin
  rw [hT, hff]
  unfold qsh_beatsAt
  rw [zfillI (N := 17) rfl (by decide) (by omega), Option.bind_some]
  refine zwh_eq (fun s => 0 ≤ s.2.1 ∧ s.2.1 ≤ T ∧ s = (zmb f s.2.1.toNat, s.2.1, zta M 6 f s.2.1.toNat)) (fun s => (T - s.2.1).toNat) ?_ n _ ⟨by simp, by simp; omega, rfl⟩ (by simp; omega)
  intro s ⟨t0, t1, hs⟩
  obtain ⟨t, ht⟩ : ∃ t, s.2.1 = t := ⟨_, rfl⟩
  rw [ht] at t0 t1 hs
  subst hs
  try dsimp only
  have hs' : zsM (zta M 6 f t.toNat) 5 := h.cg (fun x => zta_ne (by decide))
  have hl' : zLa (zta M 6 f t.toNat) 2 := hl.cg (fun c x q => zta_ne (by omega))
  have hw := zcn_rg (fun u => decide (f u = f t)) t.toNat
  have hm := zmb_rg f t.toNat
  rw [zgk_ok rfl, Option.bind_some, sh_size hs', zta_ne (by decide), zta_ne (by decide), zta_ne (by decide), hT, Option.bind_some, zw_id (by omega) (by omega), zw_id (by omega) (by omega)]
  by_cases hc : T ≤ t
  · right
    rw [if_pos hc, show t = T by omega]
  · left
    obtain ⟨u1, u2⟩ := hin t0 (show t < T by omega)
    obtain ⟨v1, v2⟩ := hfr t0 (show t < T by omega)
    have hl2 := hl'
    obtain ⟨l1, l2, l3, l4, l5, l6, l7, l8⟩ := hl'
    rw [zta_ne (by decide)] at l4 l5 l6 l7
    have eb : qla_bankAt zK0 (zta M 6 f t.toNat) 2 (i + zrd (M 5 0) (M 5 2) t) (j + zcx (M 5 0) (M 5 2) t) = some (f t) := by
      rw [la_bank rfl l2 l3 u1.1 (by omega) u2.1 (by omega)]
      have := zB.cg (M := M) (Q := zta M 6 f t.toNat) (i := i + zrd (M 5 0) (M 5 2) t) (j := j + zcx (M 5 0) (M 5 2) t) (fun c x q => zta_ne (by omega))
      unfold zB at this
      rw [this, ← hfe t]
      rfl
    rw [if_neg hc, Option.bind_some, sh_rows hs' t0 (by rw [zta_ne (by decide), zta_ne (by decide), zta_ne (by decide)]; omega), Option.bind_some, Option.bind_some, sh_cols hs' t0 (by rw [zta_ne (by decide), zta_ne (by decide), zta_ne (by decide)]; omega), Option.bind_some, zta_ne (by decide), zta_ne (by decide), zgk_ok rfl, Option.bind_some, eb, Option.bind_some, zga_ok (N := 17) rfl (by decide) v1 v2, Option.bind_some, zta_at v1 v2, zpa_ok (N := 17) rfl (by decide) v1 v2, Option.bind_some, zta_s t0 v1 v2 rfl, zga_ok (N := 17) rfl (by decide) v1 v2, Option.bind_some, zta_at v1 v2, Option.bind_some]
    refine ⟨(zmb f (t + 1).toNat, t + 1, zta M 6 f (t + 1).toNat), ?_, ⟨by dsimp only; omega, by dsimp only; omega, rfl⟩, by dsimp only; omega⟩
    rw [zcn_s t0, zmax_ok (by omega) (by omega) (by simp; omega) (by simp; omega), zmb_s t0]
    simp

theorem md_beats {Q : zM} {n : Nat} {R C k m d i j : Int} (hn : 1000000 ≤ n) (g : Int → Int → Int) (f : Int → Int) (h7 : Q 60 7 = 62) (h8 : Q 60 8 = 63) (R1 : R ≤ 16) (C1 : C ≤ 16) (hg : ∀ x y, 0 ≤ x → x < R → 0 ≤ y → y < C → Q 62 (16 * x + y) = g x y ∧ 0 ≤ g x y ∧ g x y < 17) (h : zsg k m d) (hf : zft R C k m d i j) (hfe : ∀ u, g (i + zrd k d u) (j + zcx k d u) = f u) : qmd_beatsOf n zK0 Q 60 k m d i j = some (zmb f (zsz k m d).toNat, zta Q 63 f (zsz k m d).toNat) := by
  have hz := zsz_rg h
  have hin := fun {t : Int} => zft_in (t := t) h hf
  have hsz : ∀ M : zM, qmd_cellsOf zK0 M k m d = some (zsz k m d) := fun M => md_cellsOf h
  have hca : ∀ (M : zM) t, 0 ≤ t → t < zsz k m d → qmd_cellAt zK0 M k d i j t = _ := fun M t t0 t1 => md_cellAt h t0 t1
  obtain ⟨T, hT⟩ : ∃ T, zsz k m d = T := ⟨_, rfl⟩
  rw [hT] at hz hin hsz hca ⊢
  unfold qmd_beatsOf
  have first : ∀ f1 : Int × zM → Option ((Int × zM) ⊕ (Int × zM)), (∀ x, 0 ≤ x → x < 17 → f1 (x, zfl Q 63 x 0) = some (.inl (x + 1, zfl Q 63 (x + 1) 0))) → f1 (17, zfl Q 63 17 0) = some (.inr (17, zfl Q 63 17 0)) → zwh f1 n (0, Q) = some (17, zfl Q 63 17 0) := by
    intro f1 g1 g2
    refine zwh_eq (fun s => 0 ≤ s.1 ∧ s.1 ≤ 17 ∧ s = (s.1, zfl Q 63 s.1 0)) (fun s => (17 - s.1).toNat) ?_ n _ ⟨by simp, by simp, by simp [zfl_0]⟩ (by simp; omega)
    intro s ⟨t0, t1, hs⟩
    obtain ⟨t, ht⟩ : ∃ t, s.1 = t := ⟨_, rfl⟩
    rw [ht] at t0 t1 hs
    subst hs
    by_cases c : t < 17
    · left
      exact ⟨_, g1 t t0 c, ⟨by dsimp only; omega, by dsimp only; omega, rfl⟩, by dsimp only; omega⟩
    · right
      rw [show t = 17 by omega]
      exact g2
  rw [first]
  · rw [Option.bind_some]
    refine zwh_eq (fun s => 0 ≤ s.2.1 ∧ s.2.1 ≤ T ∧ s = (zmb f s.2.1.toNat, s.2.1, zta Q 63 f s.2.1.toNat)) (fun s => (T - s.2.1).toNat) ?_ n _ ⟨by simp, by simp; omega, rfl⟩ (by simp; omega)
    intro s ⟨t0, t1, hs⟩
    obtain ⟨t, ht⟩ : ∃ t, s.2.1 = t := ⟨_, rfl⟩
    rw [ht] at t0 t1 hs
    subst hs
    try dsimp only
    have hw := zcn_rg (fun u => decide (f u = f t)) t.toNat
    have hm := zmb_rg f t.toNat
    rw [hsz, Option.bind_some, zw_id (by omega) (by omega), zw_id (x := t) (by omega) (by omega)]
    by_cases hc : T ≤ t
    · right
      rw [if_pos hc, show t = T by omega]
    · left
      obtain ⟨u1, u2⟩ := hin t0 (show t < T by omega)
      obtain ⟨g1, g2, g3⟩ := hg _ _ u1.1 u1.2 u2.1 u2.2
      rw [hfe] at g1 g2 g3
      have e7 : ∀ t : Nat, zta Q 63 f t 60 7 = 62 := fun t => by rw [zta_ne (by decide), h7]
      have e8 : ∀ t : Nat, zta Q 63 f t 60 8 = 63 := fun t => by rw [zta_ne (by decide), h8]
      obtain ⟨x, hx⟩ : ∃ x, i + zrd k d t = x := ⟨_, rfl⟩
      obtain ⟨y, hy⟩ : ∃ y, j + zcx k d t = y := ⟨_, rfl⟩
      rw [hx] at u1 g1
      rw [hy] at u2 g1
      rw [if_neg hc, hca _ t t0 (by omega), Option.bind_some, hx, hy, zgr_ok (v := 62) rfl (e7 _) (by decide), Option.bind_some, (zde u1.1 (by omega) u2.1 (by omega)).1, (zde u1.1 (by omega) u2.1 (by omega)).2, Option.bind_some, Option.bind_some, show 16 * (x + 256 - 256) + (y + 256) - 256 = 16 * x + y by omega, zga_ok (N := 256) rfl (by decide) (by omega) (by omega), Option.bind_some, zta_ne (by decide), g1, zgr_ok (v := 63) rfl (e8 _) (by decide), Option.bind_some, zga_ok (N := 17) rfl (by decide) g2 g3, Option.bind_some, zta_at g2 g3, zpa_ok (N := 17) rfl (by decide) g2 g3, Option.bind_some, zta_s t0 g2 g3 rfl, zgr_ok (v := 63) rfl (e8 _) (by decide), Option.bind_some, zga_ok (N := 17) rfl (by decide) g2 g3, Option.bind_some, zta_at g2 g3, Option.bind_some]
      refine ⟨(zmb f (t + 1).toNat, t + 1, zta Q 63 f (t + 1).toNat), ?_, ⟨by dsimp only; omega, by dsimp only; omega, rfl⟩, by dsimp only; omega⟩
      rw [zcn_s t0, zmb_s t0]
      simp only [decide_true, if_true]
      rw [zw_id (x := zcn (fun u => decide (f u = f t)) t.toNat + 1) (by omega) (by omega), zw_id (by omega) (by omega)]
      by_cases q : zmb f t.toNat < zcn (fun u => decide (f u = f t)) t.toNat + 1
      · rw [if_pos q, if_neg (by omega), zga_ok (N := 17) rfl (by decide) g2 g3, zta_at g2 g3, zcn_s t0]
        simp
      · rw [if_neg q, if_pos (by omega)]
        simp
  · intro x x0 x1
    dsimp only
    rw [zw_id (by decide) (by decide), zw_id (by omega) (by omega), if_neg (by omega), zgr_ok (v := 63) rfl (by simp [zfl, h8]) (by decide), Option.bind_some, zpa_ok (N := 17) rfl (by decide) x0 (by omega), Option.bind_some, zfl_s x0]
  · rfl
theorem Iv.ta {M : zM} {f : Int → Int} {t : Nat} {r : Int} (hr : r = 6 ∨ r = 63) (I : Iv M) : Iv (zta M r f t) := by
  obtain ⟨hS, hT, hR, hW, hP, hL, hSh⟩ := I
  rcases hr with rfl | rfl
  · refine ⟨hS.keep ?_, hT.keep ?_, hR.keep ?_, hW.keep ?_, hP.keep ?_, hL.keep ?_, hSh.keep ?_⟩
    all_goals exact (zkp.rf _ _).ta (fun _ => rfl)
  · refine ⟨hS.keep ?_, hT.keep ?_, hR.keep ?_, hW.keep ?_, hP.keep ?_, hL.keep ?_, hSh.keep ?_⟩
    all_goals exact (zkp.rf _ _).ta (fun _ => rfl)
/-- the shape asked for -/
def zas (M : zM) (k m d : Int) : zM := zu (zu (zu M 5 0 k) 5 1 m) 5 2 d
theorem zas_ne {M : zM} {k m d c x : Int} (h : c ≠ 5) : zas M k m d c x = M c x := by
  unfold zas
  rw [zu_at, if_neg (fun q => h q.1), zu_at, if_neg (fun q => h q.1), zu_at, if_neg (fun q => h q.1)]
theorem zas_at {M : zM} {k m d : Int} : zas M k m d 5 0 = k ∧ zas M k m d 5 1 = m ∧ zas M k m d 5 2 = d := ⟨rfl, rfl, rfl⟩
theorem Iv.as {M : zM} {k m d : Int} (I : Iv M) : Iv (zas M k m d) := by
  obtain ⟨hS, hT, hR, hW, hP, hL, hSh⟩ := I
  refine ⟨hS.keep ?_, hT.keep ?_, hR.keep ?_, hW.keep ?_, hP.keep ?_, hL.keep ?_, hSh.keep ?_⟩
  all_goals exact (((zkp.rf _ _).up rfl).up rfl).up rfl
theorem sh_become {M : zM} {k m d : Int} : qsh_become zK0 M 5 k m d = some (zas M k m d) := by
  unfold qsh_become zas
  simp [zPo]
theorem o_cut {M : zM} {n : Nat} (hn : 1000000 ≤ n) (I : Iv M) {a1 a2 a3 a4 a5 : Int} (g1 : zrg a1) (g2 : zrg a2) (g3 : zrg a3) (g4 : zrg a4) (g5 : zrg a5) : ∃ r M1 r' M2, qbs_cut n zK0 M 1 a1 a2 a3 a4 a5 = some (r, M1) ∧ qmd_cut n zK0 M1 60 a1 a2 a3 a4 a5 = some (r', M2) ∧ zw r = zw r' ∧ Iv M2 := by
  unfold qbs_cut qmd_cut
  simp only [zshp g1 g2 g3, zcut g1 g2 g3]
  by_cases c : (0 ≤ a1 ∧ a1 ≤ 4) ∧ (1 ≤ a2 ∧ a2 ≤ 16) ∧ 1 ≤ a3 ∧ a3 ≤ 8
  · have hg : zsg a1 a2 a3 := ⟨c.1.1, c.1.2, c.2.1.1, c.2.1.2, c.2.2.1, c.2.2.2⟩
    have I3 : Iv (zas M a1 a2 a3) := I.as
    have hs5 : zsM (zas M a1 a2 a3) 5 := ⟨rfl, hg⟩
    have hS' := I3.1
    unfold zSR at hS'
    have hSM := I.1
    unfold zSR at hSM
    have hfit := sh_fits (i := a4) (j := a5) hs5 I3.la g4 g5
    simp only [zas_at] at hfit
    by_cases f : zft (zas M a1 a2 a3 2 0) (zas M a1 a2 a3 2 1) a1 a2 a3 a4 a5
    · have hb := sh_beats (n := n) (i := a4) (j := a5) hn I3.la hs5 (by simp only [zas_at]; exact f)
      simp only [zas_at] at hb
      obtain ⟨F, hF⟩ : ∃ F, zf (zas M a1 a2 a3) a1 a3 a4 a5 = F := ⟨_, rfl⟩
      rw [hF] at hb
      have I4 : Iv (zta (zas M a1 a2 a3) 6 F (zsz a1 a2 a3).toNat) := I3.ta (Or.inl rfl)
      have e0 : ∀ x, zta (zas M a1 a2 a3) 6 F (zsz a1 a2 a3).toNat 2 x = zas M a1 a2 a3 2 x := fun x => zta_ne (by decide)
      have hS4 := I4.1
      unfold zSR at hS4
      have t4 := I4.2.1
      unfold IvT at t4
      have m1 := md_isThere (M := zta (zas M a1 a2 a3) 6 F (zsz a1 a2 a3).toNat) hg g4 g5 (by omega) (by omega)
      have l4 := mlaysNow hn I4
      have b4 := md_beats (Q := zlN (zta (zas M a1 a2 a3) 6 F (zsz a1 a2 a3).toNat)) (n := n) (R := zas M a1 a2 a3 2 0) (C := zas M a1 a2 a3 2 1) (k := a1) (m := a2) (d := a3) (i := a4) (j := a5) hn (fun x y => zB (zas M a1 a2 a3) x y) F (by rw [zlN_ne (by decide)]; simp [hS4]) (by rw [zlN_ne (by decide)]; simp [hS4]) (by rw [← e0]; omega) (by rw [← e0]; omega) (fun x y x0 x1 y0 y1 => by
        rw [zlN_at I4 x0 (by rw [e0]; exact x1) y0 (by rw [e0]; exact y1), zB.cg (M := zas M a1 a2 a3) (fun c x q => zta_ne (by omega))]
        have := zB_rL I3.la (i := x) (j := y) x0 (by rw [← e0] at x1; omega) y0 (by rw [← e0] at y1; omega)
        exact ⟨rfl, this⟩) hg f (fun u => by rw [← hF]; rfl)
      refine ⟨zmb F (zsz a1 a2 a3).toNat, zta (zas M a1 a2 a3) 6 F (zsz a1 a2 a3).toNat, zmb F (zsz a1 a2 a3).toNat, zta (zlN (zta (zas M a1 a2 a3) 6 F (zsz a1 a2 a3).toNat)) 63 F (zsz a1 a2 a3).toNat, ?_, ?_, rfl, (Iv.ly I4).ta (Or.inr rfl)⟩
      · rw [if_pos f] at hfit
        simp [c, zwl, zPo, hSM, sh_become, hS', hfit, hb]
      · rw [t4.2.2.2.2.2.2.2.2.2.2.2.2.1, t4.2.2.2.2.2.2.2.2.2.2.2.2.2.1, e0, e0, if_pos f] at m1
        simp only [c, and_self, if_true, Option.bind_some, zwl, zgk_ok (K := zK0) (r := 60) (ci := 12) (N := 49) rfl, m1, l4, show ¬ (1 : Int) = 0 by decide, if_false]
        rw [b4]
        rfl
    · have t3 := I3.2.1
      unfold IvT at t3
      have m1 := md_isThere (M := zas M a1 a2 a3) hg g4 g5 (by omega) (by omega)
      rw [t3.2.2.2.2.2.2.2.2.2.2.2.2.1, t3.2.2.2.2.2.2.2.2.2.2.2.2.2.1] at m1
      refine ⟨-1, zas M a1 a2 a3, -1, zas M a1 a2 a3, ?_, ?_, rfl, I3⟩
      · rw [if_neg f] at hfit
        simp [c, zwl, zPo, hSM, sh_become, hS', hfit]
      · rw [if_neg f] at m1
        simp [c, zwl, zPo, m1]
  · refine ⟨-1, M, -1, M, ?_, ?_, rfl, I⟩
    · simp [c, zwl]
    · simp [c, zwl]
