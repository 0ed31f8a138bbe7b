theorem c_copy {M P : zM} {n : Nat} {N : Int} {g : Int → Int} (hn : 1000000 ≤ n) (I : Iv M) (hN : M 2 0 * M 2 1 = N) (N1 : N ≤ 64) (h : zCb M P N) (hg : ∀ x, 0 ≤ x → x < N → P 19 x = g x) : ∃ P', qfs_copyTo n zK0 P 16 2 = some P' ∧ (∀ c i, c ≠ 3 → P' c i = P c i) ∧ ∀ y, 0 ≤ y → y < 256 → P' 3 y = ztf (M 2 0) (M 2 1) g (M 3) N y := by
  have ht := I.2.1
  unfold IvT at ht
  have hrc := zrc (R := M 2 0) (C := M 2 1) (by omega) (by omega) (by omega) (by omega)
  have gP := (I.keep h.1).g
  unfold zPt at gP
  have p1 : ∀ E : zM, (∀ c i, c ≠ 3 → E c i = P c i) → zgr zK0 E 2 7 2 6 = some 3 ∧ zgr zK0 E 0 5 16 2 = some 19 ∧ E 16 4 = N ∧ E 2 1 = M 2 1 := by
    intro E hE
    refine ⟨?_, ?_, by rw [hE 16 4 (by decide)]; exact h.2.1, by rw [hE 2 1 (by decide)]; exact h.1 2 1 rfl⟩
    · rw [← show zgr zK0 P 2 7 2 6 = some 3 by simp only [gP]]
      unfold zgr
      rw [hE 2 6 (by decide)]
    · rw [← show zgr zK0 P 0 5 16 2 = some 19 by simp only [gP]]
      unfold zgr
      rw [hE 16 2 (by decide)]
  unfold qfs_copyTo
  refine zwh_inv (fun s => 0 ≤ s.1 ∧ s.1 ≤ N ∧ (∀ c i, c ≠ 3 → s.2 c i = P c i) ∧ ∀ y, 0 ≤ y → y < 256 → s.2 3 y = ztf (M 2 0) (M 2 1) g (M 3) s.1 y) (fun s => (N - s.1).toNat) _ ?_ n _ ⟨by simp, by dsimp only; omega, fun _ _ _ => rfl, fun y y0 y1 => by dsimp only; rw [ztf_0 (by omega) y0, h.1 3 y rfl]⟩ (by dsimp only; omega)
  rintro ⟨c, E⟩ ⟨c0, c1, h1, h2⟩
  dsimp only at c0 c1 h1 h2 ⊢
  obtain ⟨x1, x2, x3, x4⟩ := p1 E h1
  rw [zgf_ok rfl, Option.bind_some, x3, zw_id (x := N) (by omega) (by omega), zw_id (x := c) (by omega) (by omega)]
  by_cases d : N ≤ c
  · right
    rw [if_pos d]
    have : c = N := by omega
    rw [this] at h2
    exact ⟨_, rfl, h1, h2⟩
  · left
    obtain ⟨d1, d2, d3, d4, d5⟩ := zdm (c := c) (R := M 2 0) (C := M 2 1) (by omega) c0 (by omega)
    rw [if_neg d, x1, Option.bind_some, zgf_ok rfl, Option.bind_some, x4, zdv_ok c0 (by omega) (by omega) (by omega), Option.bind_some, Option.bind_some, zrm_ok c0 (by omega) (by omega) (by omega), Option.bind_some]
    unfold qbs_spot
    rw [Option.bind_some, x2, Option.bind_some, zga_ok (N := 64) rfl (by decide) c0 (by omega), Option.bind_some, zpa_ok (N := 256) rfl (by decide) (by omega) (by omega), Option.bind_some, h1 19 c (by decide), hg c c0 (by omega)]
    refine ⟨_, rfl, ⟨by dsimp only; omega, by dsimp only; omega, fun k i hk => by dsimp only; rw [zu_n hk]; exact h1 k i hk, fun y y0 y1 => ?_⟩, by dsimp only; omega⟩
    dsimp only
    rw [ztf_s (by omega) (by omega) c0 (by omega) y0]
    by_cases e : y = c / M 2 1 * 16 + c % M 2 1
    · rw [if_pos e, e, zu_e]
    · rw [if_neg e, zu_m e, h2 y y0 y1]
theorem Iv.told {M Q : zM} (I : Iv M) (h : ∀ c i, zste c i = true → c ≠ 3 → c ≠ 61 → Q c i = M c i) (h3 : ∀ y, 0 ≤ y → y < 256 → Q 61 y = Q 3 y ∧ 0 ≤ Q 3 y ∧ Q 3 y < M 2 2) : Iv Q := by
  have h1 : zsa M (fun c i => if c = 3 ∨ c = 61 then M c i else Q c i) := by
    intro c i hc
    dsimp only
    by_cases e : c = 3 ∨ c = 61
    · rw [if_pos e]
    · rw [if_neg e]
      exact h c i hc (fun q => e (Or.inl q)) (fun q => e (Or.inr q))
  have kk : ∀ P : Int → Int → Bool, (∀ i, P 3 i = false) → (∀ i, P 61 i = false) → zkp P (fun c i => if c = 3 ∨ c = 61 then M c i else Q c i) Q := by
    intro P p1 p2 c i hc
    dsimp only
    rw [if_neg]
    rintro (rfl | rfl)
    · rw [p1] at hc; cases hc
    · rw [p2] at hc; cases hc
  obtain ⟨hS, hT, hR, hW, hP, hL, hSh⟩ := I.keep h1
  refine ⟨hS.keep (kk _ (fun _ => rfl) (fun _ => rfl)), ?_, hR.keep (kk _ (fun _ => rfl) (fun _ => rfl)), hW.keep (kk _ (fun _ => rfl) (fun _ => rfl)), hP.keep (kk _ (fun _ => rfl) (fun _ => rfl)), hL.keep (kk _ (fun _ => rfl) (fun _ => rfl)), hSh.keep (kk _ (fun _ => rfl) (fun _ => rfl))⟩
  have ht := I.2.1
  unfold IvT at ht ⊢
  have q : ∀ c i, c = 2 ∨ c = 60 → 0 ≤ i → i ≤ 5 → Q c i = M c i := by
    intro c i hc i0 i1
    refine h c i ?_ (by omega) (by omega)
    rcases hc with rfl | rfl
    · rfl
    · rcases (show i = 0 ∨ i = 1 ∨ i = 2 ∨ i = 3 ∨ i = 4 ∨ i = 5 by omega) with rfl | rfl | rfl | rfl | rfl | rfl <;> rfl
  rw [q 2 0 (by omega) (by omega) (by omega), q 2 1 (by omega) (by omega) (by omega), q 2 2 (by omega) (by omega) (by omega), q 2 3 (by omega) (by omega) (by omega), q 2 4 (by omega) (by omega) (by omega), q 2 5 (by omega) (by omega) (by omega), q 60 0 (by omega) (by omega) (by omega), q 60 1 (by omega) (by omega) (by omega), q 60 2 (by omega) (by omega) (by omega), q 60 3 (by omega) (by omega) (by omega), q 60 4 (by omega) (by omega) (by omega), q 60 5 (by omega) (by omega) (by omega)]
  obtain ⟨a1, a2, a3, a4, a5, a6, a7, a8, a9, a10, a11, a12, a13, a14, a15, a16, a17, a18, a19⟩ := ht
  exact ⟨a1, a2, a3, a4, a5, a6, a7, a8, a9, a10, a11, a12, a13, a14, a15, a16, a17, a18, h3⟩
theorem o_free {M : zM} {n : Nat} (hn : 1000000 ≤ n) (I : Iv M) : ∃ r M1 r' M2, qbs_free n zK0 M 1 = some (r, M1) ∧ qmd_free n zK0 M1 60 = some (r', M2) ∧ zw r = zw r' ∧ Iv M2 := by
  have ht := I.2.1
  unfold IvT at ht
  have hrc := zrc (R := M 2 0) (C := M 2 1) (by omega) (by omega) (by omega) (by omega)
  have g := I.g
  unfold zPt at g
  have g2 : zgr zK0 M 11 15 1 0 = some 2 := by simp only [g]
  obtain ⟨N, hN⟩ : ∃ N, M 2 0 * M 2 1 = N := ⟨_, rfl⟩
  unfold qbs_free
  rw [g2, Option.bind_some, zgk_ok (r := 2) (ci := 2) (N := 7) rfl, Option.bind_some, la_count I.la, Option.bind_some]
  rw [hN] at hrc ⊢
  rw [zw_id (x := N) (by omega) (by omega), zw_id (x := 64) (by decide) (by decide)]
  by_cases c : N ≤ 64
  rotate_left
  · rw [if_neg c]
    refine ⟨_, _, -2, M, rfl, ?_, rfl, I⟩
    unfold qmd_free
    rw [zgf_ok rfl, Option.bind_some, zgf_ok rfl, Option.bind_some, ht.2.2.2.2.2.2.2.2.2.2.2.2.1, ht.2.2.2.2.2.2.2.2.2.2.2.2.2.1, hN, zw_id (x := N) (by omega) (by omega), zw_id (x := 64) (by decide) (by decide), if_neg c]
  obtain ⟨P6, e1, e2, e3, e4⟩ := c_gather hn I (by omega)
  rw [hN] at e3
  have g6 := (I.keep e2).g
  unfold zPt at g6
  obtain ⟨P, f1, f2, f3⟩ := c_seek (P0 := P6) (m := M 2 2) hn I (by omega) c (by omega) (by omega) ⟨e2, e3, e4⟩
  have rg := zrs_rg (N := N) (m := M 2 2) (ρ := zrv M) (by omega) (by omega)
  have lay := fun (X : Int × (Int → Int)) (T : zM) (hX : X.1 = 3 ∨ X.1 = 62) (hT : zsx X M T) => m_laysFree (X := X) (T := T) (m := M 2 2) hn I hX hT hN c (by omega) (by omega)
  obtain ⟨r, hr⟩ : ∃ r, zrs N (M 2 2) (zrv M) (0, 0, 0, fun _ => 0) = r := ⟨_, rfl⟩
  rw [hr] at f1 f3 rg lay
  rw [if_pos c, show zgr zK0 M 11 15 1 6 = some 16 by simp only [g], Option.bind_some, Option.bind_some, show zgr zK0 M 11 15 1 4 = some 7 by simp only [g], Option.bind_some, zgk_ok (r := 16) (ci := 0) (N := 5) rfl, Option.bind_some, e1, Option.bind_some, show zgr zK0 P6 11 15 1 6 = some 16 by simp only [g6], Option.bind_some, show zgr zK0 P6 11 15 1 0 = some 2 by simp only [g6], Option.bind_some, zgf_ok rfl, Option.bind_some, zgk_ok (r := 16) (ci := 0) (N := 5) rfl, Option.bind_some, show P6 2 2 = M 2 2 from e2 2 2 rfl, f1, Option.bind_some]
  dsimp only
  rw [zw_id (x := r.1) (by omega) (by omega)]
  have hRC : ∀ (X : Int × (Int → Int)) (Q : zM), X.1 = 3 ∨ X.1 = 62 → zsx X M Q → Q 60 0 = M 2 0 ∧ Q 60 1 = M 2 1 ∧ Q 60 2 = M 2 2 := fun X Q hX hQ => ⟨(hQ.1 60 0 rfl (by omega)).trans ht.2.2.2.2.2.2.2.2.2.2.2.2.1, (hQ.1 60 1 rfl (by omega)).trans ht.2.2.2.2.2.2.2.2.2.2.2.2.2.1, (hQ.1 60 2 rfl (by omega)).trans ht.2.2.2.2.2.2.2.2.2.2.2.2.2.2.1⟩
  by_cases d : r.1 ≤ 0
  · rw [if_pos d]
    obtain ⟨Q, k1, k2, k3⟩ := lay (62, fun _ => 0) P (Or.inr rfl) (zsx.of f2.1)
    have hp := hRC _ P (Or.inr rfl) (zsx.of f2.1)
    have hq := hRC _ Q (Or.inr rfl) k2
    refine ⟨_, _, r.1, Q, rfl, ?_, rfl, I.keep (zsx.to k2)⟩
    unfold qmd_free
    rw [zgf_ok rfl, Option.bind_some, zgf_ok rfl, Option.bind_some, hp.1, hp.2.1, hN, zw_id (x := N) (by omega) (by omega), zw_id (x := 64) (by decide) (by decide), if_pos c, zgf_ok rfl, Option.bind_some, hp.2.2, zgk_ok rfl, Option.bind_some, k1, Option.bind_some]
    refine zwh_eq (fun s => s = (0, Q)) (fun _ => 0) ?_ n _ rfl (by omega)
    rintro s rfl
    right
    dsimp only
    rw [zgf_ok rfl, Option.bind_some, zgf_ok rfl, Option.bind_some, hq.1, hq.2.1, hN, zw_id (x := N) (by omega) (by omega), zw_id (x := 0) (by decide) (by decide), if_neg (by omega), zw_id (x := r.1) (by omega) (by omega), if_pos d]
  · rw [if_neg d]
    obtain ⟨P', j1, j2, j3⟩ := c_copy (g := r.2) hn I hN c f2 (f3 (by omega))
    have gP := (I.keep f2.1).g
    unfold zPt at gP
    have hP' : zsx (3, P' 3) M P' := ⟨fun k i hk hx => (j2 k i hx).trans (f2.1 k i hk), fun i _ => rfl⟩
    obtain ⟨Q, k1, k2, k3⟩ := lay (3, P' 3) P' (Or.inl rfl) hP'
    have hp := hRC _ P' (Or.inl rfl) hP'
    have hq := hRC _ Q (Or.inl rfl) k2
    have gQ := zsx.g I (Or.inl rfl) k2
    unfold zPt at gQ
    have bd : ∀ x, 0 ≤ x → x < N → 0 ≤ r.2 x ∧ r.2 x < M 2 2 := by
      rcases rg with rg | rg | ⟨_, _, rg⟩
      · omega
      · omega
      · exact rg
    rw [show zgr zK0 P 11 15 1 6 = some 16 by simp only [gP], Option.bind_some, show zgr zK0 P 11 15 1 0 = some 2 by simp only [gP], Option.bind_some, zgk_ok (r := 16) (ci := 0) (N := 5) rfl, Option.bind_some, j1, Option.bind_some]
    have key : ∀ (F : Int × zM → Option ((Int × zM) ⊕ (Int × zM))), (∃ x, zwh F n (0, Q) = some x ∧ x.1 = r.1 ∧ (∀ k i, k ≠ 61 → x.2 k i = Q k i) ∧ ∀ y, 0 ≤ y → y < 256 → x.2 61 y = ztf (M 2 0) (M 2 1) r.2 (M 3) N y) → ∃ Q', zwh F n (0, Q) = some (r.1, Q') ∧ (∀ k i, k ≠ 61 → Q' k i = Q k i) ∧ ∀ y, 0 ≤ y → y < 256 → Q' 61 y = ztf (M 2 0) (M 2 1) r.2 (M 3) N y := by
      rintro F ⟨⟨x1, x2⟩, e1, e2, e3, e4⟩
      dsimp only at e2 e3 e4
      subst e2
      exact ⟨_, e1, e3, e4⟩
    have main : ∃ Q', qmd_free n zK0 P' 60 = some (r.1, Q') ∧ (∀ k i, k ≠ 61 → Q' k i = Q k i) ∧ ∀ y, 0 ≤ y → y < 256 → Q' 61 y = ztf (M 2 0) (M 2 1) r.2 (M 3) N y := by
      unfold qmd_free
      rw [zgf_ok rfl, Option.bind_some, zgf_ok rfl, Option.bind_some, hp.1, hp.2.1, hN, zw_id (x := N) (by omega) (by omega), zw_id (x := 64) (by decide) (by decide), if_pos c, zgf_ok rfl, Option.bind_some, hp.2.2, zgk_ok rfl, Option.bind_some, k1, Option.bind_some]
      refine key _ (zwh_inv (fun s => 0 ≤ s.1 ∧ s.1 ≤ N ∧ (∀ k i, k ≠ 61 → s.2 k i = Q k i) ∧ ∀ y, 0 ≤ y → y < 256 → s.2 61 y = ztf (M 2 0) (M 2 1) r.2 (M 3) s.1 y) (fun s => (N - s.1).toNat) _ ?_ n _ ⟨by simp, by dsimp only; omega, fun _ _ _ => rfl, fun y y0 y1 => by dsimp only; rw [ztf_0 (by omega) y0]; exact (k2.1 61 y rfl (show (61 : Int) ≠ 3 by decide)).trans (ht.2.2.2.2.2.2.2.2.2.2.2.2.2.2.2.2.2.2 y y0 y1).1⟩ (by dsimp only; omega))
      rintro ⟨x, E⟩ ⟨x0, x1, h1, h2⟩
      dsimp only at x0 x1 h1 h2 ⊢
      have y6 : zgr zK0 E 12 49 60 6 = some 61 := by
        rw [← show zgr zK0 Q 12 49 60 6 = some 61 by simp only [gQ]]
        unfold zgr
        rw [h1 60 6 (by decide)]
      have y14 : zgr zK0 E 12 49 60 14 = some 68 := by
        rw [← show zgr zK0 Q 12 49 60 14 = some 68 by simp only [gQ]]
        unfold zgr
        rw [h1 60 14 (by decide)]
      rw [zgf_ok rfl, Option.bind_some, zgf_ok rfl, Option.bind_some, h1 60 0 (by decide), h1 60 1 (by decide), hq.1, hq.2.1, hN, zw_id (x := N) (by omega) (by omega), zw_id (x := x) (by omega) (by omega), zw_id (x := r.1) (by omega) (by omega)]
      by_cases e : N ≤ x
      · right
        rw [if_pos e]
        have : x = N := by omega
        rw [this] at h2
        exact ⟨_, rfl, rfl, h1, h2⟩
      · left
        obtain ⟨d1, d2, d3, d4, d5⟩ := zdm (c := x) (R := M 2 0) (C := M 2 1) (by omega) x0 (by omega)
        rw [if_neg e, if_neg d, y6, Option.bind_some, Option.bind_some, zdv_ok x0 (by omega) (by omega) (by omega), Option.bind_some, Option.bind_some, zrm_ok x0 (by omega) (by omega) (by omega), Option.bind_some, y14, Option.bind_some, zga_ok (N := 64) rfl (by decide) x0 (by omega), Option.bind_some, zpa_ok (N := 256) rfl (by decide) (by omega) (by omega), Option.bind_some, h1 68 x (by decide), k3 (by omega) x x0 (by omega)]
        refine ⟨_, rfl, ⟨by dsimp only; omega, by dsimp only; omega, fun k i hk => by dsimp only; rw [zu_n hk]; exact h1 k i hk, fun y y0 y1 => ?_⟩, by dsimp only; omega⟩
        dsimp only
        rw [ztf_s (by omega) (by omega) x0 (by omega) y0]
        by_cases f : y = x / M 2 1 * 16 + x % M 2 1
        · rw [if_pos f, f, show x / M 2 1 * 16 + x % M 2 1 = 16 * (x / M 2 1) + x % M 2 1 by omega, zu_e]
        · rw [if_neg f, zu_m (by omega), h2 y y0 y1]
    obtain ⟨Q', m1, m2, m3⟩ := main
    refine ⟨_, _, r.1, Q', rfl, m1, rfl, I.told (fun k i hk x1 x2 => (m2 k i x2).trans (k2.1 k i hk x1)) (fun y y0 y1 => ?_)⟩
    rw [m3 y y0 y1, m2 3 y (by decide), k2.2 y rfl]
    dsimp only
    rw [j3 y y0 y1]
    refine ⟨rfl, ?_⟩
    unfold ztf
    by_cases f : (y / 16 < M 2 0 ∧ y % 16 < M 2 1) ∧ y / 16 * M 2 1 + y % 16 < N
    · rw [if_pos f]
      have : 0 ≤ y / 16 * M 2 1 := Int.mul_nonneg (by omega) (by omega)
      exact bd _ (by omega) f.2
    · rw [if_neg f]
      exact (ht.2.2.2.2.2.2.2.2.2.2.2.2.2.2.2.2.2.2 y y0 y1).2
