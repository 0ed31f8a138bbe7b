/-- as before in all places that calls leave, but cell X.1, which is X.2 -/
def zsx (X : Int × (Int → Int)) (M Q : zM) : Prop := (∀ c i, zste c i = true → c ≠ X.1 → Q c i = M c i) ∧ ∀ i, zste X.1 i = true → Q X.1 i = X.2 i
theorem zsx.up {X : Int × (Int → Int)} {M M1 : zM} {r k v : Int} (h : zsx X M M1) (hs : zste r k = false) : zsx X M (zu M1 r k v) := by
  refine ⟨fun c i hc hx => ?_, fun i hc => ?_⟩
  · rw [zu_at, if_neg (fun q => by rw [q.1, q.2, hs] at hc; cases hc)]
    exact h.1 c i hc hx
  · rw [zu_at, if_neg (fun q => by rw [q.1, q.2, hs] at hc; cases hc)]
    exact h.2 i hc
theorem zsx.fl {X : Int × (Int → Int)} {M M1 : zM} {r N v : Int} (h : zsx X M M1) (hs : ∀ i, zste r i = false) : zsx X M (zfl M1 r N v) := by
  refine ⟨fun c i hc hx => ?_, fun i hc => ?_⟩
  · unfold zfl
    rw [if_neg (fun q => by rw [q.1, hs] at hc; cases hc)]
    exact h.1 c i hc hx
  · unfold zfl
    rw [if_neg (fun q => by rw [q.1, hs] at hc; cases hc)]
    exact h.2 i hc
theorem zsx.of {M Q : zM} (h : zsa M Q) : zsx (62, fun _ => 0) M Q := ⟨fun c i hc _ => h c i hc, fun i hc => by cases hc⟩
theorem zsx.to {M Q : zM} (h : zsx (62, fun _ => 0) M Q) : zsa M Q := fun c i hc => h.1 c i hc (fun e => by rw [e] at hc; cases hc)
theorem zSR.g {M : zM} (hS : zSR M) : zPt M := by
  unfold zSR at hS
  obtain ⟨e0, e1, e2, e3, e4, e5, e6, e7, e8, e9, e10, e11, e12, e13, e14, e15, e16, e17, e18, e19, e20, e21, e22, e23, e24, e25, e26, e27, e28, e29, e30, e31, e32, e33, e34, e35, e36, e37, e38, e39, e40, e41, e42, e43, e44, e45, e46, e47, e48, e49, e50, e51, e52, e53, e54, e55, e56, e57, e58, e59, e60, e61, e62, e63, e64, e65, e66, e67, e68, e69, e70, e71, e72, e73, e74, e75, e76, e77, e78, e79, e80, e81, e82, e83⟩ := hS
  exact ⟨zgr_ok (v := 2) rfl e0 (by decide), zgr_ok (v := 4) rfl e1 (by decide), zgr_ok (v := 5) rfl e2 (by decide), zgr_ok (v := 6) rfl e3 (by decide), zgr_ok (v := 7) rfl e4 (by decide), zgr_ok (v := 15) rfl e5 (by decide), zgr_ok (v := 16) rfl e6 (by decide), zgr_ok (v := 21) rfl e7 (by decide), zgr_ok (v := 24) rfl e8 (by decide), zgr_ok (v := 29) rfl e9 (by decide), zgr_ok (v := 32) rfl e10 (by decide), zgr_ok (v := 37) rfl e11 (by decide), zgr_ok (v := 3) rfl e12 (by decide), zgr_ok (v := 3) rfl e13 (by decide), zgr_ok (v := 8) rfl e14 (by decide), zgr_ok (v := 17) rfl e21 (by decide), zgr_ok (v := 18) rfl e22 (by decide), zgr_ok (v := 19) rfl e23 (by decide), zgr_ok (v := 20) rfl e24 (by decide), zgr_ok (v := 22) rfl e25 (by decide), zgr_ok (v := 23) rfl e26 (by decide), zgr_ok (v := 25) rfl e27 (by decide), zgr_ok (v := 26) rfl e28 (by decide), zgr_ok (v := 27) rfl e29 (by decide), zgr_ok (v := 28) rfl e30 (by decide), zgr_ok (v := 30) rfl e31 (by decide), zgr_ok (v := 31) rfl e32 (by decide), zgr_ok (v := 33) rfl e33 (by decide), zgr_ok (v := 34) rfl e34 (by decide), zgr_ok (v := 35) rfl e35 (by decide), zgr_ok (v := 36) rfl e36 (by decide), zgr_ok (v := 39) rfl e41 (by decide), zgr_ok (v := 41) rfl e42 (by decide), zgr_ok (v := 43) rfl e43 (by decide), zgr_ok (v := 45) rfl e44 (by decide), zgr_ok (v := 47) rfl e45 (by decide), zgr_ok (v := 48) rfl e46 (by decide), zgr_ok (v := 49) rfl e47 (by decide), zgr_ok (v := 50) rfl e48 (by decide), zgr_ok (v := 51) rfl e49 (by decide), zgr_ok (v := 52) rfl e50 (by decide), zgr_ok (v := 54) rfl e51 (by decide), zgr_ok (v := 55) rfl e52 (by decide), zgr_ok (v := 56) rfl e53 (by decide), zgr_ok (v := 57) rfl e54 (by decide), zgr_ok (v := 58) rfl e55 (by decide), zgr_ok (v := 59) rfl e56 (by decide), zgr_ok (v := 61) rfl e57 (by decide), zgr_ok (v := 62) rfl e58 (by decide), zgr_ok (v := 63) rfl e59 (by decide), zgr_ok (v := 64) rfl e60 (by decide), zgr_ok (v := 65) rfl e61 (by decide), zgr_ok (v := 66) rfl e62 (by decide), zgr_ok (v := 67) rfl e63 (by decide), zgr_ok (v := 68) rfl e64 (by decide), zgr_ok (v := 69) rfl e65 (by decide), zgr_ok (v := 70) rfl e66 (by decide), zgr_ok (v := 71) rfl e67 (by decide), zgr_ok (v := 72) rfl e68 (by decide), zgr_ok (v := 73) rfl e69 (by decide), zgr_ok (v := 74) rfl e70 (by decide), zgr_ok (v := 75) rfl e71 (by decide), zgr_ok (v := 76) rfl e72 (by decide), zgr_ok (v := 77) rfl e73 (by decide), zgr_ok (v := 78) rfl e74 (by decide), zgr_ok (v := 79) rfl e75 (by decide), zgr_ok (v := 80) rfl e76 (by decide), zgr_ok (v := 81) rfl e77 (by decide), zgr_ok (v := 82) rfl e78 (by decide), zgr_ok (v := 83) rfl e79 (by decide), zgr_ok (v := 84) rfl e80 (by decide), zgr_ok (v := 85) rfl e81 (by decide), zgr_ok (v := 86) rfl e82 (by decide), zgr_ok (v := 87) rfl e83 (by decide)⟩

theorem zsx.g {X : Int × (Int → Int)} {M Q : zM} (I : Iv M) (hX : X.1 = 3 ∨ X.1 = 62) (h : zsx X M Q) : zPt Q := by
  obtain ⟨x, y⟩ := X
  dsimp only at hX
  have h1 : zsa M (fun c i => if c = x then M c i else Q c i) := by
    intro c i hc
    dsimp only
    by_cases e : c = x
    · rw [if_pos e]
    · rw [if_neg e]
      exact h.1 c i hc e
  have h2 := (I.keep h1).1
  apply zSR.g
  unfold zSR at h2 ⊢
  rcases hX with rfl | rfl
  · simpa using h2
  · simpa using h2
theorem zwish {M Q : zM} (I : Iv M) {X : Int × (Int → Int)} (hX : X.1 = 3 ∨ X.1 = 62) (hQ : zsx X M Q) {w : Int} (w0 : 0 ≤ w) (w1 : w < M 7 1) : Q 64 w = M (9 + w) 0 ∧ Q 65 w = M (9 + w) 1 ∧ Q 66 w = M (9 + w) 2 ∧ Q 60 0 = M 2 0 ∧ Q 60 1 = M 2 1 ∧ Q 60 9 = M 7 1 := by
  have ht := I.2.1
  unfold IvT at ht
  obtain ⟨u1, u2, u3, u4⟩ := I.2.2.2.1
  obtain ⟨v1, v2, v3, v4, v5, v6, v7, v8, v9⟩ := u4 w w0 w1
  exact ⟨(hQ.1 64 w rfl (by omega)).trans v1, (hQ.1 65 w rfl (by omega)).trans v2, (hQ.1 66 w rfl (by omega)).trans v3, (hQ.1 60 0 rfl (by omega)).trans ht.2.2.2.2.2.2.2.2.2.2.2.2.1, (hQ.1 60 1 rfl (by omega)).trans ht.2.2.2.2.2.2.2.2.2.2.2.2.2.1, (hQ.1 60 9 rfl (by omega)).trans u3⟩
/-- the number of a cell, as the reference finds it -/
theorem m_num {M Q : zM} {w p u : Int} (I : Iv M) {X : Int × (Int → Int)} (hX : X.1 = 3 ∨ X.1 = 62) (hQ : zsx X M Q) (w0 : 0 ≤ w) (w1 : w < M 7 1) (hf : zft (M 2 0) (M 2 1) (M (9 + w) 0) (M (9 + w) 1) (M (9 + w) 2) (p / M 2 1) (p % M 2 1)) (u0 : 0 ≤ u) (u1 : u < zsz (M (9 + w) 0) (M (9 + w) 1) (M (9 + w) 2)) : ∃ v, qmd_cellAt zK0 Q (M (9 + w) 0) (M (9 + w) 2) (p / M 2 1) (p % M 2 1) u = some v ∧ qmd_placeOf zK0 Q 60 v = some (znu (M 2 1) (M (9 + w) 0) (M (9 + w) 2) p u) := by
  have ht := I.2.1
  unfold IvT at ht
  have hs := (zw_sM I w0 w1).2
  obtain ⟨x1, x2, x3, x4, x5, x6⟩ := zwish I hX hQ w0 w1
  obtain ⟨⟨a1, a2⟩, a3, a4⟩ := zft_in hs hf u0 u1
  refine ⟨_, md_cellAt hs u0 u1, ?_⟩
  unfold qmd_placeOf znu
  obtain ⟨x, hx⟩ : ∃ x, p / M 2 1 + zrd (M (9 + w) 0) (M (9 + w) 2) u = x := ⟨_, rfl⟩
  obtain ⟨y, hy⟩ : ∃ y, p % M 2 1 + zcx (M (9 + w) 0) (M (9 + w) 2) u = y := ⟨_, rfl⟩
  rw [hx] at a1 a2 ⊢
  rw [hy] at a3 a4 ⊢
  rw [(zde a1 (by omega) a3 (by omega)).1, (zde a1 (by omega) a3 (by omega)).2, Option.bind_some, zgf_ok rfl, Option.bind_some, Option.bind_some, x5, show x + 256 - 256 = x by omega]
  congr 1
  omega
theorem m_cutA {M Q : zM} {n : Nat} {w p S : Int} (hn : 1000000 ≤ n) (I : Iv M) {X : Int × (Int → Int)} (hX : X.1 = 3 ∨ X.1 = 62) (hQ : zsx X M Q) (w0 : 0 ≤ w) (w1 : w < M 7 1) (p0 : 0 ≤ p) (p1 : p < 1000) (hf : zft (M 2 0) (M 2 1) (M (9 + w) 0) (M (9 + w) 1) (M (9 + w) 2) (p / M 2 1) (p % M 2 1)) (hS : zsz (M (9 + w) 0) (M (9 + w) 1) (M (9 + w) 2) = S) : (zwh (σ := Int × Int) (ρ := Int × Int) (fun s28 =>
              if zw S ≤ zw s28.2 then
                some (.inr (s28.1, s28.2))
              else
                (zgr zK0 Q 12 49 60 10).bind fun r45 =>
                (zga zK0 Q 100 r45 w).bind fun v46 =>
                (zgr zK0 Q 12 49 60 12).bind fun r47 =>
                (zga zK0 Q 100 r47 w).bind fun v48 =>
                (zgf zK0 Q 12 49 60 1).bind fun v49 =>
                (zdv p v49).bind fun v50 =>
                (zgf zK0 Q 12 49 60 1).bind fun v51 =>
                (zrm p v51).bind fun v52 =>
                (qmd_cellAt zK0 Q v46 v48 v50 v52 s28.2).bind fun v53 =>
                (zgk zK0 60 12 49).bind fun _ => (qmd_placeOf zK0 Q 60 v53).bind fun v54 =>
                some (.inl (zlor s28.1 (zlshl 1 v54), s28.2 + 1))) n (0, 0)) = some (zcA (znu (M 2 1) (M (9 + w) 0) (M (9 + w) 2) p) S.toNat, S) := by
  have ht := I.2.1
  unfold IvT at ht
  have h6 := I.2.2.2.1
  unfold IvW at h6
  have hz := zsz_rg (zw_sM I w0 w1).2
  obtain ⟨x1, x2, x3, x4, x5, x6⟩ := zwish I hX hQ w0 w1
  have g := (zsx.g I hX hQ)
  unfold zPt at g
  have g10 : zgr zK0 Q 12 49 60 10 = some 64 := by simp only [g]
  have g12 : zgr zK0 Q 12 49 60 12 = some 66 := by simp only [g]
  have hnu := fun {u : Int} => m_num (u := u) I hX hQ w0 w1 hf
  rw [hS] at hz hnu
  refine zwh_eq (fun s => 0 ≤ s.2 ∧ s.2 ≤ S ∧ s.1 = zcA (znu (M 2 1) (M (9 + w) 0) (M (9 + w) 2) p) s.2.toNat) (fun s => (S - s.2).toNat) ?_ n _ ⟨by simp, by simp; omega, rfl⟩ (by simp; omega)
  rintro ⟨a, u⟩ ⟨u0, u1, hu⟩
  dsimp only at u0 u1 hu ⊢
  rw [zw_id (x := S) (by omega) (by omega), zw_id (x := u) (by omega) (by omega)]
  by_cases c : S ≤ u
  · right
    have : u = S := by omega
    rw [if_pos c, hu, this]
  · left
    obtain ⟨v, e1, e2⟩ := hnu u0 (by omega)
    rw [if_neg c, g10, Option.bind_some, zga_ok (N := 6) rfl (by decide) w0 (by omega), Option.bind_some, g12, Option.bind_some, zga_ok (N := 6) rfl (by decide) w0 (by omega), Option.bind_some, zgf_ok rfl, Option.bind_some, x1, x3, x5, zdv_ok p0 (by omega) (by omega) (by omega), Option.bind_some, Option.bind_some, zrm_ok p0 (by omega) (by omega) (by omega), Option.bind_some, e1, Option.bind_some, zgk_ok rfl, Option.bind_some, e2, Option.bind_some]
    exact ⟨_, rfl, ⟨by dsimp only; omega, by dsimp only; omega, by dsimp only; rw [zcA_s u0, hu]⟩, by dsimp only; omega⟩
theorem m_cutR {M Q : zM} {n : Nat} {w p S AL : Int} {ρ : Int → Int} (hn : 1000000 ≤ n) (I : Iv M) {X : Int × (Int → Int)} (hX : X.1 = 3 ∨ X.1 = 62) (hQ : zsx X M Q) (w0 : 0 ≤ w) (w1 : w < M 7 1) (p0 : 0 ≤ p) (p1 : p < 1000) (hN : M 2 0 * M 2 1 ≤ 64) (hf : zft (M 2 0) (M 2 1) (M (9 + w) 0) (M (9 + w) 1) (M (9 + w) 2) (p / M 2 1) (p % M 2 1)) (hS : zsz (M (9 + w) 0) (M (9 + w) 1) (M (9 + w) 2) = S) (h67 : ∀ x, 0 ≤ x → x < 64 → Q 67 x = ρ x) : ∃ Q', (zwh (σ := Int × zM) (ρ := Int × zM) (fun s30 =>
              if zw S ≤ zw s30.1 then
                some (.inr (s30.1, s30.2))
              else
                (zgr zK0 s30.2 12 49 60 13).bind fun r32 =>
                (zgr zK0 s30.2 12 49 60 10).bind fun r33 =>
                (zga zK0 s30.2 100 r33 w).bind fun v34 =>
                (zgr zK0 s30.2 12 49 60 12).bind fun r35 =>
                (zga zK0 s30.2 100 r35 w).bind fun v36 =>
                (zgf zK0 s30.2 12 49 60 1).bind fun v37 =>
                (zdv p v37).bind fun v38 =>
                (zgf zK0 s30.2 12 49 60 1).bind fun v39 =>
                (zrm p v39).bind fun v40 =>
                (qmd_cellAt zK0 s30.2 v34 v36 v38 v40 s30.1).bind fun v41 =>
                (zgk zK0 60 12 49).bind fun _ => (qmd_placeOf zK0 s30.2 60 v41).bind fun v42 =>
                (zga zK0 s30.2 102 r32 v42).bind fun v43 =>
                (zpa zK0 s30.2 102 r32 v42 (zlor v43 AL)).bind fun M44 =>
                some (.inl (s30.1 + 1, M44))) n (0, Q)) = some (S, Q') ∧ zsx X M Q' ∧ ∀ x, 0 ≤ x → x < 64 → Q' 67 x = zcR (znu (M 2 1) (M (9 + w) 0) (M (9 + w) 2) p) AL ρ S.toNat x := by
  have ht := I.2.1
  unfold IvT at ht
  have h6 := I.2.2.2.1
  unfold IvW at h6
  have hs := (zw_sM I w0 w1).2
  have hz := zsz_rg hs
  have hrg := fun {u : Int} => znu_rg (u := u) hs hf
  rw [hS] at hz hrg
  have key : ∀ F : Int × zM → Option ((Int × zM) ⊕ (Int × zM)), (∃ r, zwh F n (0, Q) = some r ∧ r.1 = S ∧ zsx X M r.2 ∧ ∀ x, 0 ≤ x → x < 64 → r.2 67 x = zcR (znu (M 2 1) (M (9 + w) 0) (M (9 + w) 2) p) AL ρ S.toNat x) → ∃ Q', zwh F n (0, Q) = some (S, Q') ∧ zsx X M Q' ∧ ∀ x, 0 ≤ x → x < 64 → Q' 67 x = zcR (znu (M 2 1) (M (9 + w) 0) (M (9 + w) 2) p) AL ρ S.toNat x := by
    rintro F ⟨⟨r1, r2⟩, e1, e2, e3, e4⟩
    dsimp only at e2 e3 e4
    subst e2
    exact ⟨_, e1, e3, e4⟩
  refine key _ (zwh_inv (fun s => 0 ≤ s.1 ∧ s.1 ≤ S ∧ zsx X M s.2 ∧ ∀ x, 0 ≤ x → x < 64 → s.2 67 x = zcR (znu (M 2 1) (M (9 + w) 0) (M (9 + w) 2) p) AL ρ s.1.toNat x) (fun s => (S - s.1).toNat) _ ?_ n _ ⟨by simp, by simp; omega, hQ, fun x x0 x1 => by dsimp only; rw [h67 x x0 x1]; rfl⟩ (by simp; omega))
  rintro ⟨u, E⟩ ⟨u0, u1, h1, h2⟩
  dsimp only at u0 u1 h1 h2 ⊢
  rw [zw_id (x := S) (by omega) (by omega), zw_id (x := u) (by omega) (by omega)]
  by_cases c : S ≤ u
  · right
    rw [if_pos c]
    have : u = S := by omega
    subst this
    exact ⟨_, rfl, rfl, h1, h2⟩
  · left
    obtain ⟨x1, x2, x3, x4, x5, x6⟩ := zwish I hX h1 w0 w1
    have g := (zsx.g I hX h1)
    unfold zPt at g
    have g10 : zgr zK0 E 12 49 60 10 = some 64 := by simp only [g]
    have g12 : zgr zK0 E 12 49 60 12 = some 66 := by simp only [g]
    have g13 : zgr zK0 E 12 49 60 13 = some 67 := by simp only [g]
    obtain ⟨v, e1, e2⟩ := m_num (u := u) I hX h1 w0 w1 hf u0 (by rw [hS]; omega)
    have r := hrg u0 (show u < S by omega)
    rw [if_neg c, g13, Option.bind_some, g10, Option.bind_some, zga_ok (N := 6) rfl (by decide) w0 (by omega), Option.bind_some, g12, Option.bind_some, zga_ok (N := 6) rfl (by decide) w0 (by omega), Option.bind_some, zgf_ok rfl, Option.bind_some, x1, x3, x5, zdv_ok p0 (by omega) (by omega) (by omega), Option.bind_some, Option.bind_some, zrm_ok p0 (by omega) (by omega) (by omega), Option.bind_some, e1, Option.bind_some, zgk_ok rfl, Option.bind_some, e2, Option.bind_some, zga_ok (N := 64) rfl (by decide) r.1 (by omega), Option.bind_some, zpa_ok (N := 64) rfl (by decide) r.1 (by omega), Option.bind_some]
    refine ⟨_, rfl, ⟨by dsimp only; omega, by dsimp only; omega, h1.up rfl, fun x y0 y1 => ?_⟩, by dsimp only; omega⟩
    dsimp only
    rw [zcR_s u0]
    by_cases e : x = znu (M 2 1) (M (9 + w) 0) (M (9 + w) 2) p u
    · rw [if_pos e, e, zu_e, h2 _ r.1 (by omega)]
    · rw [if_neg e, zu_m e, h2 x y0 y1]
theorem m_clash {M T : zM} {n : Nat} (hn : 1000000 ≤ n) (I : Iv M) {X : Int × (Int → Int)} (hX : X.1 = 3 ∨ X.1 = 62) (hT : zsx X M T) (hN : M 2 0 * M 2 1 ≤ 64) : ∃ Q, qmd_findClash n zK0 T 60 = some Q ∧ zsx X M Q ∧ ∀ x, 0 ≤ x → x < 64 → Q 67 x = zrv M x := by
  have ht := I.2.1
  unfold IvT at ht
  have h6 := I.2.2.2.1
  unfold IvW at h6
  have hrc := zrc (R := M 2 0) (C := M 2 1) (by omega) (by omega) (by omega) (by omega)
  have e0 : ∀ F : Int × zM → Option ((Int × zM) ⊕ (Int × zM)), (∀ j, 0 ≤ j → j < 64 → F (j, zfl T 67 j 0) = some (.inl (j + 1, zu (zfl T 67 j 0) 67 j 0))) → (F (64, zfl T 67 64 0) = some (.inr (64, zfl T 67 64 0))) → zwh F n (0, T) = some (64, zfl T 67 64 0) := by
    intro F f1 f2
    refine zwh_eq (fun s => 0 ≤ s.1 ∧ s.1 ≤ 64 ∧ s.2 = zfl T 67 s.1 0) (fun s => (64 - s.1).toNat) ?_ n _ ⟨by simp, by simp, by simp [zfl_0]⟩ (by simp; omega)
    rintro ⟨j, E⟩ ⟨h1, h2, h3⟩
    dsimp only at h1 h2 h3 ⊢
    subst h3
    by_cases c : j < 64
    · left
      exact ⟨_, f1 j h1 c, ⟨by dsimp only; omega, by dsimp only; omega, zfl_s h1⟩, by dsimp only; omega⟩
    · right
      have : j = 64 := by omega
      subst this
      exact f2
  unfold qmd_findClash
  rw [e0, Option.bind_some]
  · have h0 : zsx X M (zfl T 67 64 0) := hT.fl (fun _ => rfl)
    dsimp only
    refine zwh_inv (fun s => 0 ≤ s.1 ∧ s.1 ≤ M 7 1 ∧ zsx X M s.2 ∧ ∀ x, 0 ≤ x → x < 64 → s.2 67 x = zcW (M 2 0) (M 2 1) (fun w => M (9 + w) 0) (fun w => M (9 + w) 1) (fun w => M (9 + w) 2) s.1.toNat x) (fun s => (M 7 1 - s.1).toNat) _ ?_ n _ ⟨by simp, by simp; omega, h0, fun x x0 x1 => by dsimp only; rw [zfl_e x0 x1]; rfl⟩ (by simp; omega)
    rintro ⟨w, E⟩ ⟨w0, w1, h1, h2⟩
    dsimp only at w0 w1 h1 h2 ⊢
    rw [zgf_ok rfl, Option.bind_some, show E 60 9 = M 7 1 from (h1.1 60 9 rfl (by omega)).trans h6.2.2.1, zw_id (x := M 7 1) (by omega) (by omega), zw_id (x := w) (by omega) (by omega)]
    by_cases c : M 7 1 ≤ w
    · right
      rw [if_pos c]
      have : w = M 7 1 := by omega
      subst this
      exact ⟨_, rfl, h1, h2⟩
    · left
      have w2 : w < M 7 1 := by omega
      obtain ⟨x1, x2, x3, x4, x5, x6⟩ := zwish I hX h1 w0 w2
      have hs := (zw_sM I w0 w2).2
      have g := (zsx.g I hX h1)
      unfold zPt at g
      have g10 : zgr zK0 E 12 49 60 10 = some 64 := by simp only [g]
      have g11 : zgr zK0 E 12 49 60 11 = some 65 := by simp only [g]
      have g12 : zgr zK0 E 12 49 60 12 = some 66 := by simp only [g]
      rw [if_neg c, g10, Option.bind_some, zga_ok (N := 6) rfl (by decide) w0 (by omega), Option.bind_some, g11, Option.bind_some, zga_ok (N := 6) rfl (by decide) w0 (by omega), Option.bind_some, g12, Option.bind_some, zga_ok (N := 6) rfl (by decide) w0 (by omega), Option.bind_some, x1, x2, x3, md_cellsOf hs, Option.bind_some]
      have key : ∀ F : Int × zM → Option ((Int × zM) ⊕ (Int × zM)), (∃ r, zwh F n (0, E) = some r ∧ zsx X M r.2 ∧ ∀ x, 0 ≤ x → x < 64 → r.2 67 x = zcP (M 2 0) (M 2 1) (M (9 + w) 0) (M (9 + w) 1) (M (9 + w) 2) (zcW (M 2 0) (M 2 1) (fun w => M (9 + w) 0) (fun w => M (9 + w) 1) (fun w => M (9 + w) 2) w.toNat) (M 2 0 * M 2 1).toNat x) → ∃ s' : Int × zM, ((zwh F n (0, E)).bind fun e13 => some (Sum.inl (w + 1, e13.2) : (Int × zM) ⊕ zM)) = some (.inl s') ∧ (0 ≤ s'.1 ∧ s'.1 ≤ M 7 1 ∧ zsx X M s'.2 ∧ ∀ x, 0 ≤ x → x < 64 → s'.2 67 x = zcW (M 2 0) (M 2 1) (fun w => M (9 + w) 0) (fun w => M (9 + w) 1) (fun w => M (9 + w) 2) s'.1.toNat x) ∧ (M 7 1 - s'.1).toNat < (M 7 1 - w).toNat := by
        rintro F ⟨r, e1, e2, e3⟩
        rw [e1]
        refine ⟨_, rfl, ⟨by dsimp only; omega, by dsimp only; omega, e2, fun x y0 y1 => ?_⟩, by dsimp only; omega⟩
        dsimp only
        rw [zcW_s w0]
        exact e3 x y0 y1
      refine key _ (zwh_inv (fun s => 0 ≤ s.1 ∧ s.1 ≤ M 2 0 * M 2 1 ∧ zsx X M s.2 ∧ ∀ x, 0 ≤ x → x < 64 → s.2 67 x = zcP (M 2 0) (M 2 1) (M (9 + w) 0) (M (9 + w) 1) (M (9 + w) 2) (zcW (M 2 0) (M 2 1) (fun w => M (9 + w) 0) (fun w => M (9 + w) 1) (fun w => M (9 + w) 2) w.toNat) s.1.toNat x) (fun s => (M 2 0 * M 2 1 - s.1).toNat) _ ?_ n _ ⟨by simp, by dsimp only; omega, h1, fun x y0 y1 => by dsimp only; rw [h2 x y0 y1]; rfl⟩ (by dsimp only; omega))
      rintro ⟨p, Q⟩ ⟨p0, p1, k1, k2⟩
      dsimp only at p0 p1 k1 k2 ⊢
      obtain ⟨y1, y2, y3, y4, y5, y6⟩ := zwish I hX k1 w0 w2
      rw [zgf_ok rfl, Option.bind_some, zgf_ok rfl, Option.bind_some, y4, y5, zw_id (x := M 2 0 * M 2 1) (by omega) (by omega), zw_id (x := p) (by omega) (by omega)]
      by_cases d : M 2 0 * M 2 1 ≤ p
      · right
        rw [if_pos d]
        have : p = M 2 0 * M 2 1 := by omega
        rw [this] at k2
        exact ⟨_, rfl, k1, k2⟩
      · left
        have gQ := (zsx.g I hX k1)
        unfold zPt at gQ
        have q10 : zgr zK0 Q 12 49 60 10 = some 64 := by simp only [gQ]
        have q11 : zgr zK0 Q 12 49 60 11 = some 65 := by simp only [gQ]
        have q12 : zgr zK0 Q 12 49 60 12 = some 66 := by simp only [gQ]
        obtain ⟨d1, d2, d3, d4, d5⟩ := zdm (R := M 2 0) (C := M 2 1) (c := p) (by omega) p0 (by omega)
        have hth := md_isThere (M := Q) (i := p / M 2 1) (j := p % M 2 1) hs (by unfold zrg; omega) (by unfold zrg; omega) (by omega) (by omega)
        rw [y4, y5] at hth
        have es := zcP_s (R := M 2 0) (C := M 2 1) (k := M (9 + w) 0) (m := M (9 + w) 1) (d := M (9 + w) 2) (ρ := zcW (M 2 0) (M 2 1) (fun w => M (9 + w) 0) (fun w => M (9 + w) 1) (fun w => M (9 + w) 2) w.toNat) p0
        rw [if_neg d, q10, Option.bind_some, zga_ok (N := 6) rfl (by decide) w0 (by omega), Option.bind_some, q11, Option.bind_some, zga_ok (N := 6) rfl (by decide) w0 (by omega), Option.bind_some, q12, Option.bind_some, zga_ok (N := 6) rfl (by decide) w0 (by omega), Option.bind_some, Option.bind_some, zdv_ok p0 (by omega) (by omega) (by omega), Option.bind_some, Option.bind_some, zrm_ok p0 (by omega) (by omega) (by omega), Option.bind_some, y1, y2, y3, zgk_ok rfl, Option.bind_some, hth, Option.bind_some]
        by_cases f : zft (M 2 0) (M 2 1) (M (9 + w) 0) (M (9 + w) 1) (M (9 + w) 2) (p / M 2 1) (p % M 2 1)
        · rw [if_pos f] at es
          rw [if_pos f, if_neg (by decide)]
          have eA := m_cutA (Q := Q) (p := p) hn I hX k1 w0 w2 p0 (by omega) f rfl
          obtain ⟨Q', eR, e2, e3⟩ := m_cutR (Q := Q) (p := p) (AL := zcA (znu (M 2 1) (M (9 + w) 0) (M (9 + w) 2) p) (zsz (M (9 + w) 0) (M (9 + w) 1) (M (9 + w) 2)).toNat) hn I hX k1 w0 w2 p0 (by omega) hN f rfl k2
          rw [q10, q12, zgf_ok (r := 60) (ci := 12) (N := 49) (k := 1) rfl, y5, zgk_ok (r := 60) (ci := 12) (N := 49) rfl] at eA
          rw [zgk_ok (r := 60) (ci := 12) (N := 49) rfl] at eR
          rw [eA, Option.bind_some, eR, Option.bind_some, Option.bind_some]
          exact ⟨_, rfl, ⟨by dsimp only; omega, by dsimp only; omega, e2, by dsimp only; rw [es]; exact e3⟩, by dsimp only; omega⟩
        · rw [if_neg f] at es
          rw [if_neg f, if_pos (by decide), Option.bind_some]
          exact ⟨_, rfl, ⟨by dsimp only; omega, by dsimp only; omega, k1, by dsimp only; rw [es]; exact k2⟩, by dsimp only; omega⟩
  · intro j j0 j1
    dsimp only
    have g := (zsx.g I hX hT)
    unfold zPt at g
    have g13 : zgr zK0 T 12 49 60 13 = some 67 := by simp only [g]
    rw [zw_id (x := 64) (by decide) (by decide), zw_id (x := j) (by omega) (by omega), if_neg (by omega), zgr_fl (by decide), g13, Option.bind_some, zpa_ok (N := 64) rfl (by decide) j0 (by omega), Option.bind_some]
  · dsimp only
    rw [if_pos (by omega)]
