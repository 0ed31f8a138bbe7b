theorem zwish {M Q : zM} (I : Iv M) (hQ : zsa M Q) {w : Int} (w0 : 0 ≤ w) (w1 : w < M 7 1) : Q 64 w = M (9 + w) 0 ∧ Q 65 w = M (9 + w) 1 ∧ Q 66 w = M (9 + w) 2 ∧ Q 60 0 = M 2 0 ∧ Q 60 1 = M 2 1 ∧ Q 60 9 = M 7 1 := by
  have ht := I.2.1
  unfold IvT at ht
  obtain ⟨u1, u2, u3, u4⟩ := I.2.2.2.1
  obtain ⟨v1, v2, v3, v4, v5, v6, v7, v8, v9⟩ := u4 w w0 w1
  exact ⟨(hQ 64 w rfl).trans v1, (hQ 65 w rfl).trans v2, (hQ 66 w rfl).trans v3, (hQ 60 0 rfl).trans ht.2.2.2.2.2.2.2.2.2.2.2.2.1, (hQ 60 1 rfl).trans ht.2.2.2.2.2.2.2.2.2.2.2.2.2.1, (hQ 60 9 rfl).trans u3⟩
/-- the number of a cell, as the reference finds it -/
theorem m_num {M Q : zM} {w p u : Int} (I : Iv M) (hQ : zsa M Q) (w0 : 0 ≤ w) (w1 : w < M 7 1) (hf : zft (M 2 0) (M 2 1) (M (9 + w) 0) (M (9 + w) 1) (M (9 + w) 2) (p / M 2 1) (p % M 2 1)) (u0 : 0 ≤ u) (u1 : u < zsz (M (9 + w) 0) (M (9 + w) 1) (M (9 + w) 2)) : ∃ v, qmd_cellAt zK0 Q (M (9 + w) 0) (M (9 + w) 2) (p / M 2 1) (p % M 2 1) u = some v ∧ qmd_placeOf zK0 Q 60 v = some (znu (M 2 1) (M (9 + w) 0) (M (9 + w) 2) p u) := by
  have ht := I.2.1
  unfold IvT at ht
  have hs := (zw_sM I w0 w1).2
  obtain ⟨x1, x2, x3, x4, x5, x6⟩ := zwish I hQ w0 w1
  obtain ⟨⟨a1, a2⟩, a3, a4⟩ := zft_in hs hf u0 u1
  refine ⟨_, md_cellAt hs u0 u1, ?_⟩
  unfold qmd_placeOf znu
  obtain ⟨x, hx⟩ : ∃ x, p / M 2 1 + zrd (M (9 + w) 0) (M (9 + w) 2) u = x := ⟨_, rfl⟩
  obtain ⟨y, hy⟩ : ∃ y, p % M 2 1 + zcx (M (9 + w) 0) (M (9 + w) 2) u = y := ⟨_, rfl⟩
  rw [hx] at a1 a2 ⊢
  rw [hy] at a3 a4 ⊢
  rw [(zde a1 (by omega) a3 (by omega)).1, (zde a1 (by omega) a3 (by omega)).2, Option.bind_some, zgf_ok rfl, Option.bind_some, Option.bind_some, x5, show x + 256 - 256 = x by omega]
  congr 1
  omega
theorem m_cutA {M Q : zM} {n : Nat} {w p S : Int} (hn : 1000000 ≤ n) (I : Iv M) (hQ : zsa M Q) (w0 : 0 ≤ w) (w1 : w < M 7 1) (p0 : 0 ≤ p) (p1 : p < 1000) (hf : zft (M 2 0) (M 2 1) (M (9 + w) 0) (M (9 + w) 1) (M (9 + w) 2) (p / M 2 1) (p % M 2 1)) (hS : zsz (M (9 + w) 0) (M (9 + w) 1) (M (9 + w) 2) = S) : (zwh (σ := Int × Int) (ρ := Int × Int) (fun s28 =>
              if zw S ≤ zw s28.2 then
                some (.inr (s28.1, s28.2))
              else
                (zgr zK0 Q 12 49 60 10).bind fun r45 =>
                (zga zK0 Q 100 r45 w).bind fun v46 =>
                (zgr zK0 Q 12 49 60 12).bind fun r47 =>
                (zga zK0 Q 100 r47 w).bind fun v48 =>
                (zgf zK0 Q 12 49 60 1).bind fun v49 =>
                (zdv p v49).bind fun v50 =>
                (zgf zK0 Q 12 49 60 1).bind fun v51 =>
                (zrm p v51).bind fun v52 =>
                (qmd_cellAt zK0 Q v46 v48 v50 v52 s28.2).bind fun v53 =>
                (zgk zK0 60 12 49).bind fun _ => (qmd_placeOf zK0 Q 60 v53).bind fun v54 =>
                some (.inl (zlor s28.1 (zlshl 1 v54), s28.2 + 1))) n (0, 0)) = some (zcA (znu (M 2 1) (M (9 + w) 0) (M (9 + w) 2) p) S.toNat, S) := by
  have ht := I.2.1
  unfold IvT at ht
  have h6 := I.2.2.2.1
  unfold IvW at h6
  have hz := zsz_rg (zw_sM I w0 w1).2
  obtain ⟨x1, x2, x3, x4, x5, x6⟩ := zwish I hQ w0 w1
  have g := (I.keep hQ).g
  unfold zPt at g
  have g10 : zgr zK0 Q 12 49 60 10 = some 64 := by simp only [g]
  have g12 : zgr zK0 Q 12 49 60 12 = some 66 := by simp only [g]
  have hnu := fun {u : Int} => m_num (u := u) I hQ w0 w1 hf
  rw [hS] at hz hnu
  refine zwh_eq (fun s => 0 ≤ s.2 ∧ s.2 ≤ S ∧ s.1 = zcA (znu (M 2 1) (M (9 + w) 0) (M (9 + w) 2) p) s.2.toNat) (fun s => (S - s.2).toNat) ?_ n _ ⟨by simp, by simp; omega, rfl⟩ (by simp; omega)
  rintro ⟨a, u⟩ ⟨u0, u1, hu⟩
  dsimp only at u0 u1 hu ⊢
  rw [zw_id (x := S) (by omega) (by omega), zw_id (x := u) (by omega) (by omega)]
  by_cases c : S ≤ u
  · right
    have : u = S := by omega
    rw [if_pos c, hu, this]
  · left
    obtain ⟨v, e1, e2⟩ := hnu u0 (by omega)
    rw [if_neg c, g10, Option.bind_some, zga_ok (N := 6) rfl (by decide) w0 (by omega), Option.bind_some, g12, Option.bind_some, zga_ok (N := 6) rfl (by decide) w0 (by omega), Option.bind_some, zgf_ok rfl, Option.bind_some, x1, x3, x5, zdv_ok p0 (by omega) (by omega) (by omega), Option.bind_some, Option.bind_some, zrm_ok p0 (by omega) (by omega) (by omega), Option.bind_some, e1, Option.bind_some, zgk_ok rfl, Option.bind_some, e2, Option.bind_some]
    exact ⟨_, rfl, ⟨by dsimp only; omega, by dsimp only; omega, by dsimp only; rw [zcA_s u0, hu]⟩, by dsimp only; omega⟩
theorem m_cutR {M Q : zM} {n : Nat} {w p S AL : Int} {ρ : Int → Int} (hn : 1000000 ≤ n) (I : Iv M) (hQ : zsa M Q) (w0 : 0 ≤ w) (w1 : w < M 7 1) (p0 : 0 ≤ p) (p1 : p < 1000) (hN : M 2 0 * M 2 1 ≤ 64) (hf : zft (M 2 0) (M 2 1) (M (9 + w) 0) (M (9 + w) 1) (M (9 + w) 2) (p / M 2 1) (p % M 2 1)) (hS : zsz (M (9 + w) 0) (M (9 + w) 1) (M (9 + w) 2) = S) (h67 : ∀ x, 0 ≤ x → x < 64 → Q 67 x = ρ x) : ∃ Q', (zwh (σ := Int × zM) (ρ := Int × zM) (fun s30 =>
              if zw S ≤ zw s30.1 then
                some (.inr (s30.1, s30.2))
              else
                (zgr zK0 s30.2 12 49 60 13).bind fun r32 =>
                (zgr zK0 s30.2 12 49 60 10).bind fun r33 =>
                (zga zK0 s30.2 100 r33 w).bind fun v34 =>
                (zgr zK0 s30.2 12 49 60 12).bind fun r35 =>
                (zga zK0 s30.2 100 r35 w).bind fun v36 =>
                (zgf zK0 s30.2 12 49 60 1).bind fun v37 =>
                (zdv p v37).bind fun v38 =>
                (zgf zK0 s30.2 12 49 60 1).bind fun v39 =>
                (zrm p v39).bind fun v40 =>
                (qmd_cellAt zK0 s30.2 v34 v36 v38 v40 s30.1).bind fun v41 =>
                (zgk zK0 60 12 49).bind fun _ => (qmd_placeOf zK0 s30.2 60 v41).bind fun v42 =>
                (zga zK0 s30.2 102 r32 v42).bind fun v43 =>
                (zpa zK0 s30.2 102 r32 v42 (zlor v43 AL)).bind fun M44 =>
                some (.inl (s30.1 + 1, M44))) n (0, Q)) = some (S, Q') ∧ zsa M Q' ∧ ∀ x, 0 ≤ x → x < 64 → Q' 67 x = zcR (znu (M 2 1) (M (9 + w) 0) (M (9 + w) 2) p) AL ρ S.toNat x := by
  have ht := I.2.1
  unfold IvT at ht
  have h6 := I.2.2.2.1
  unfold IvW at h6
  have hs := (zw_sM I w0 w1).2
  have hz := zsz_rg hs
  have hrg := fun {u : Int} => znu_rg (u := u) hs hf
  rw [hS] at hz hrg
  have key : ∀ F : Int × zM → Option ((Int × zM) ⊕ (Int × zM)), (∃ r, zwh F n (0, Q) = some r ∧ r.1 = S ∧ zsa M r.2 ∧ ∀ x, 0 ≤ x → x < 64 → r.2 67 x = zcR (znu (M 2 1) (M (9 + w) 0) (M (9 + w) 2) p) AL ρ S.toNat x) → ∃ Q', zwh F n (0, Q) = some (S, Q') ∧ zsa M Q' ∧ ∀ x, 0 ≤ x → x < 64 → Q' 67 x = zcR (znu (M 2 1) (M (9 + w) 0) (M (9 + w) 2) p) AL ρ S.toNat x := by
    rintro F ⟨⟨r1, r2⟩, e1, e2, e3, e4⟩
    dsimp only at e2 e3 e4
    subst e2
    exact ⟨_, e1, e3, e4⟩
  refine key _ (zwh_inv (fun s => 0 ≤ s.1 ∧ s.1 ≤ S ∧ zsa M s.2 ∧ ∀ x, 0 ≤ x → x < 64 → s.2 67 x = zcR (znu (M 2 1) (M (9 + w) 0) (M (9 + w) 2) p) AL ρ s.1.toNat x) (fun s => (S - s.1).toNat) _ ?_ n _ ⟨by simp, by simp; omega, hQ, fun x x0 x1 => by dsimp only; rw [h67 x x0 x1]; rfl⟩ (by simp; omega))
  rintro ⟨u, E⟩ ⟨u0, u1, h1, h2⟩
  dsimp only at u0 u1 h1 h2 ⊢
  rw [zw_id (x := S) (by omega) (by omega), zw_id (x := u) (by omega) (by omega)]
  by_cases c : S ≤ u
  · right
    rw [if_pos c]
    have : u = S := by omega
    subst this
    exact ⟨_, rfl, rfl, h1, h2⟩
  · left
    obtain ⟨x1, x2, x3, x4, x5, x6⟩ := zwish I h1 w0 w1
    have g := (I.keep h1).g
    unfold zPt at g
    have g10 : zgr zK0 E 12 49 60 10 = some 64 := by simp only [g]
    have g12 : zgr zK0 E 12 49 60 12 = some 66 := by simp only [g]
    have g13 : zgr zK0 E 12 49 60 13 = some 67 := by simp only [g]
    obtain ⟨v, e1, e2⟩ := m_num (u := u) I h1 w0 w1 hf u0 (by rw [hS]; omega)
    have r := hrg u0 (show u < S by omega)
    rw [if_neg c, g13, Option.bind_some, g10, Option.bind_some, zga_ok (N := 6) rfl (by decide) w0 (by omega), Option.bind_some, g12, Option.bind_some, zga_ok (N := 6) rfl (by decide) w0 (by omega), Option.bind_some, zgf_ok rfl, Option.bind_some, x1, x3, x5, zdv_ok p0 (by omega) (by omega) (by omega), Option.bind_some, Option.bind_some, zrm_ok p0 (by omega) (by omega) (by omega), Option.bind_some, e1, Option.bind_some, zgk_ok rfl, Option.bind_some, e2, Option.bind_some, zga_ok (N := 64) rfl (by decide) r.1 (by omega), Option.bind_some, zpa_ok (N := 64) rfl (by decide) r.1 (by omega), Option.bind_some]
    refine ⟨_, rfl, ⟨by dsimp only; omega, by dsimp only; omega, h1.up rfl, fun x y0 y1 => ?_⟩, by dsimp only; omega⟩
    dsimp only
    rw [zcR_s u0]
    by_cases e : x = znu (M 2 1) (M (9 + w) 0) (M (9 + w) 2) p u
    · rw [if_pos e, e, zu_e, h2 _ r.1 (by omega)]
    · rw [if_neg e, zu_m e, h2 x y0 y1]
theorem m_clash {M T : zM} {n : Nat} (hn : 1000000 ≤ n) (I : Iv M) (hT : zsa M T) (hN : M 2 0 * M 2 1 ≤ 64) : ∃ Q, qmd_findClash n zK0 T 60 = some Q ∧ zsa M Q ∧ ∀ x, 0 ≤ x → x < 64 → Q 67 x = zrv M x := by
  have ht := I.2.1
  unfold IvT at ht
  have h6 := I.2.2.2.1
  unfold IvW at h6
  have hrc := zrc (R := M 2 0) (C := M 2 1) (by omega) (by omega) (by omega) (by omega)
  have e0 : ∀ F : Int × zM → Option ((Int × zM) ⊕ (Int × zM)), (∀ j, 0 ≤ j → j < 64 → F (j, zfl T 67 j 0) = some (.inl (j + 1, zu (zfl T 67 j 0) 67 j 0))) → (F (64, zfl T 67 64 0) = some (.inr (64, zfl T 67 64 0))) → zwh F n (0, T) = some (64, zfl T 67 64 0) := by
    intro F f1 f2
    refine zwh_eq (fun s => 0 ≤ s.1 ∧ s.1 ≤ 64 ∧ s.2 = zfl T 67 s.1 0) (fun s => (64 - s.1).toNat) ?_ n _ ⟨by simp, by simp, by simp [zfl_0]⟩ (by simp; omega)
    rintro ⟨j, E⟩ ⟨h1, h2, h3⟩
    dsimp only at h1 h2 h3 ⊢
    subst h3
    by_cases c : j < 64
    · left
      exact ⟨_, f1 j h1 c, ⟨by dsimp only; omega, by dsimp only; omega, zfl_s h1⟩, by dsimp only; omega⟩
    · right
      have : j = 64 := by omega
      subst this
      exact f2
  unfold qmd_findClash
  rw [e0, Option.bind_some]
  · have h0 : zsa M (zfl T 67 64 0) := hT.fl (fun _ => rfl)
    dsimp only
    refine zwh_inv (fun s => 0 ≤ s.1 ∧ s.1 ≤ M 7 1 ∧ zsa M s.2 ∧ ∀ x, 0 ≤ x → x < 64 → s.2 67 x = zcW (M 2 0) (M 2 1) (fun w => M (9 + w) 0) (fun w => M (9 + w) 1) (fun w => M (9 + w) 2) s.1.toNat x) (fun s => (M 7 1 - s.1).toNat) _ ?_ n _ ⟨by simp, by simp; omega, h0, fun x x0 x1 => by dsimp only; rw [zfl_e x0 x1]; rfl⟩ (by simp; omega)
    rintro ⟨w, E⟩ ⟨w0, w1, h1, h2⟩
    dsimp only at w0 w1 h1 h2 ⊢
    rw [zgf_ok rfl, Option.bind_some, show E 60 9 = M 7 1 from (h1 60 9 rfl).trans h6.2.2.1, zw_id (x := M 7 1) (by omega) (by omega), zw_id (x := w) (by omega) (by omega)]
    by_cases c : M 7 1 ≤ w
    · right
      rw [if_pos c]
      have : w = M 7 1 := by omega
      subst this
      exact ⟨_, rfl, h1, h2⟩
    · left
      have w2 : w < M 7 1 := by omega
      obtain ⟨x1, x2, x3, x4, x5, x6⟩ := zwish I h1 w0 w2
      have hs := (zw_sM I w0 w2).2
      have g := (I.keep h1).g
      unfold zPt at g
      have g10 : zgr zK0 E 12 49 60 10 = some 64 := by simp only [g]
      have g11 : zgr zK0 E 12 49 60 11 = some 65 := by simp only [g]
      have g12 : zgr zK0 E 12 49 60 12 = some 66 := by simp only [g]
      rw [if_neg c, g10, Option.bind_some, zga_ok (N := 6) rfl (by decide) w0 (by omega), Option.bind_some, g11, Option.bind_some, zga_ok (N := 6) rfl (by decide) w0 (by omega), Option.bind_some, g12, Option.bind_some, zga_ok (N := 6) rfl (by decide) w0 (by omega), Option.bind_some, x1, x2, x3, md_cellsOf hs, Option.bind_some]
      have key : ∀ F : Int × zM → Option ((Int × zM) ⊕ (Int × zM)), (∃ r, zwh F n (0, E) = some r ∧ zsa M r.2 ∧ ∀ x, 0 ≤ x → x < 64 → r.2 67 x = zcP (M 2 0) (M 2 1) (M (9 + w) 0) (M (9 + w) 1) (M (9 + w) 2) (zcW (M 2 0) (M 2 1) (fun w => M (9 + w) 0) (fun w => M (9 + w) 1) (fun w => M (9 + w) 2) w.toNat) (M 2 0 * M 2 1).toNat x) → ∃ s' : Int × zM, ((zwh F n (0, E)).bind fun e13 => some (Sum.inl (w + 1, e13.2) : (Int × zM) ⊕ zM)) = some (.inl s') ∧ (0 ≤ s'.1 ∧ s'.1 ≤ M 7 1 ∧ zsa M s'.2 ∧ ∀ x, 0 ≤ x → x < 64 → s'.2 67 x = zcW (M 2 0) (M 2 1) (fun w => M (9 + w) 0) (fun w => M (9 + w) 1) (fun w => M (9 + w) 2) s'.1.toNat x) ∧ (M 7 1 - s'.1).toNat < (M 7 1 - w).toNat := by
        rintro F ⟨r, e1, e2, e3⟩
        rw [e1]
        refine ⟨_, rfl, ⟨by dsimp only; omega, by dsimp only; omega, e2, fun x y0 y1 => ?_⟩, by dsimp only; omega⟩
        dsimp only
        rw [zcW_s w0]
        exact e3 x y0 y1
      refine key _ (zwh_inv (fun s => 0 ≤ s.1 ∧ s.1 ≤ M 2 0 * M 2 1 ∧ zsa M s.2 ∧ ∀ x, 0 ≤ x → x < 64 → s.2 67 x = zcP (M 2 0) (M 2 1) (M (9 + w) 0) (M (9 + w) 1) (M (9 + w) 2) (zcW (M 2 0) (M 2 1) (fun w => M (9 + w) 0) (fun w => M (9 + w) 1) (fun w => M (9 + w) 2) w.toNat) s.1.toNat x) (fun s => (M 2 0 * M 2 1 - s.1).toNat) _ ?_ n _ ⟨by simp, by dsimp only; omega, h1, fun x y0 y1 => by dsimp only; rw [h2 x y0 y1]; rfl⟩ (by dsimp only; omega))
      rintro ⟨p, Q⟩ ⟨p0, p1, k1, k2⟩
      dsimp only at p0 p1 k1 k2 ⊢
      obtain ⟨y1, y2, y3, y4, y5, y6⟩ := zwish I k1 w0 w2
      rw [zgf_ok rfl, Option.bind_some, zgf_ok rfl, Option.bind_some, y4, y5, zw_id (x := M 2 0 * M 2 1) (by omega) (by omega), zw_id (x := p) (by omega) (by omega)]
      by_cases d : M 2 0 * M 2 1 ≤ p
      · right
        rw [if_pos d]
        have : p = M 2 0 * M 2 1 := by omega
        rw [this] at k2
        exact ⟨_, rfl, k1, k2⟩
      · left
        have gQ := (I.keep k1).g
        unfold zPt at gQ
        have q10 : zgr zK0 Q 12 49 60 10 = some 64 := by simp only [gQ]
        have q11 : zgr zK0 Q 12 49 60 11 = some 65 := by simp only [gQ]
        have q12 : zgr zK0 Q 12 49 60 12 = some 66 := by simp only [gQ]
        obtain ⟨d1, d2, d3, d4, d5⟩ := zdm (R := M 2 0) (C := M 2 1) (c := p) (by omega) p0 (by omega)
        have hth := md_isThere (M := Q) (i := p / M 2 1) (j := p % M 2 1) hs (by unfold zrg; omega) (by unfold zrg; omega) (by omega) (by omega)
        rw [y4, y5] at hth
        have es := zcP_s (R := M 2 0) (C := M 2 1) (k := M (9 + w) 0) (m := M (9 + w) 1) (d := M (9 + w) 2) (ρ := zcW (M 2 0) (M 2 1) (fun w => M (9 + w) 0) (fun w => M (9 + w) 1) (fun w => M (9 + w) 2) w.toNat) p0
        rw [if_neg d, q10, Option.bind_some, zga_ok (N := 6) rfl (by decide) w0 (by omega), Option.bind_some, q11, Option.bind_some, zga_ok (N := 6) rfl (by decide) w0 (by omega), Option.bind_some, q12, Option.bind_some, zga_ok (N := 6) rfl (by decide) w0 (by omega), Option.bind_some, Option.bind_some, zdv_ok p0 (by omega) (by omega) (by omega), Option.bind_some, Option.bind_some, zrm_ok p0 (by omega) (by omega) (by omega), Option.bind_some, y1, y2, y3, zgk_ok rfl, Option.bind_some, hth, Option.bind_some]
        by_cases f : zft (M 2 0) (M 2 1) (M (9 + w) 0) (M (9 + w) 1) (M (9 + w) 2) (p / M 2 1) (p % M 2 1)
        · rw [if_pos f] at es
          rw [if_pos f, if_neg (by decide)]
          have eA := m_cutA (Q := Q) (p := p) hn I k1 w0 w2 p0 (by omega) f rfl
          obtain ⟨Q', eR, e2, e3⟩ := m_cutR (Q := Q) (p := p) (AL := zcA (znu (M 2 1) (M (9 + w) 0) (M (9 + w) 2) p) (zsz (M (9 + w) 0) (M (9 + w) 1) (M (9 + w) 2)).toNat) hn I k1 w0 w2 p0 (by omega) hN f rfl k2
          rw [q10, q12, zgf_ok (r := 60) (ci := 12) (N := 49) (k := 1) rfl, y5, zgk_ok (r := 60) (ci := 12) (N := 49) rfl] at eA
          rw [zgk_ok (r := 60) (ci := 12) (N := 49) rfl] at eR
          rw [eA, Option.bind_some, eR, Option.bind_some, Option.bind_some]
          exact ⟨_, rfl, ⟨by dsimp only; omega, by dsimp only; omega, e2, by dsimp only; rw [es]; exact e3⟩, by dsimp only; omega⟩
        · rw [if_neg f] at es
          rw [if_neg f, if_pos (by decide), Option.bind_some]
          exact ⟨_, rfl, ⟨by dsimp only; omega, by dsimp only; omega, k1, by dsimp only; rw [es]; exact k2⟩, by dsimp only; omega⟩
  · intro j j0 j1
    dsimp only
    have g := (I.keep hT).g
    unfold zPt at g
    have g13 : zgr zK0 T 12 49 60 13 = some 67 := by simp only [g]
    rw [zw_id (x := 64) (by decide) (by decide), zw_id (x := j) (by omega) (by omega), if_neg (by omega), zgr_fl (by decide), g13, Option.bind_some, zpa_ok (N := 64) rfl (by decide) j0 (by omega), Option.bind_some]
  · dsimp only
    rw [if_pos (by omega)]
