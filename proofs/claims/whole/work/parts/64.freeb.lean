theorem zfr_rg {N m : Int} {ρ : Int → Int} (hm : 1 ≤ m) : ∀ (k : Nat) (S : Int × Int × Int × (Int → Int)), zfI N m S → zmu S < k → ((zfr N m ρ k S).1 = -4 ∨ (zfr N m ρ k S).1 = -6 ∨ (0 < (zfr N m ρ k S).1 ∧ (zfr N m ρ k S).1 ≤ 20000 ∧ ∀ x, 0 ≤ x → x < N → 0 ≤ (zfr N m ρ k S).2 x ∧ (zfr N m ρ k S).2 x < m)) := by
  intro k
  induction k with
  | zero => intro S _ h; omega
  | succ k ih =>
    intro S hS hk
    rw [zfr]
    cases e : zfs N m ρ S with
    | inl S' =>
      obtain ⟨a, b⟩ := zfs_I hm hS e
      exact ih S' a (by omega)
    | inr r =>
      dsimp only
      obtain ⟨c, v, t, f⟩ := S
      obtain ⟨h1, h2, h3, h4, h5, h6, h7⟩ := hS
      dsimp only at h1 h2 h3 h4 h5 h6 h7
      have gl : zlst m f c ≤ m - 1 := by unfold zlst; split <;> omega
      unfold zfs at e
      dsimp only at e
      by_cases a1 : v ≤ zlst m f c
      · rw [if_pos a1] at e
        by_cases a2 : zln1 ρ f c v = true
        · rw [if_pos a2] at e
          by_cases a3 : c + 1 = N
          · rw [if_pos a3] at e
            injection e with e
            subst e
            right; right
            refine ⟨by dsimp only; omega, by dsimp only; omega, fun x x0 x1 => ?_⟩
            dsimp only
            unfold zup
            by_cases b : x = c
            · rw [if_pos b]; omega
            · rw [if_neg b]; exact h7 x x0 (by omega)
          · rw [if_neg a3] at e
            by_cases a4 : t + 1 = 20000
            · rw [if_pos a4] at e
              injection e with e
              subst e
              right; left; rfl
            · rw [if_neg a4] at e; cases e
        · rw [if_neg a2] at e
          by_cases a4 : t + 1 = 20000
          · rw [if_pos a4] at e
            injection e with e
            subst e
            right; left; rfl
          · rw [if_neg a4] at e; cases e
      · rw [if_neg a1] at e
        by_cases a2 : c = 0
        · rw [if_pos a2] at e
          injection e with e
          subst e
          left; rfl
        · rw [if_neg a2] at e; cases e
theorem zrs_rg {N m : Int} {ρ : Int → Int} (hm : 1 ≤ m) (N0 : 1 ≤ N) : (zrs N m ρ (0, 0, 0, fun _ => 0)).1 = -4 ∨ (zrs N m ρ (0, 0, 0, fun _ => 0)).1 = -6 ∨ (0 < (zrs N m ρ (0, 0, 0, fun _ => 0)).1 ∧ (zrs N m ρ (0, 0, 0, fun _ => 0)).1 ≤ 20000 ∧ ∀ x, 0 ≤ x → x < N → 0 ≤ (zrs N m ρ (0, 0, 0, fun _ => 0)).2 x ∧ (zrs N m ρ (0, 0, 0, fun _ => 0)).2 x < m) := by
  unfold zrs
  exact zfr_rg hm _ _ ⟨by simp, by dsimp only; omega, by simp, by simp, by simp, by dsimp only; omega, fun x x0 x1 => by dsimp only at x1; omega⟩ (by omega)
theorem o_freeBanks {M : zM} {n : Nat} (hn : 1000000 ≤ n) (I : Iv M) : ∃ r M1 r' M2, qbs_freeBanks n zK0 M 1 = some (r, M1) ∧ qmd_freeBanks n zK0 M1 60 = some (r', M2) ∧ zw r = zw r' ∧ Iv M2 := by
  refine zjn (d := fun T => qmd_freeBanks n zK0 T 60) I (fun T hT => ?_)
  try dsimp only
  have ht := I.2.1
  unfold IvT at ht
  have hrc := zrc (R := M 2 0) (C := M 2 1) (by omega) (by omega) (by omega) (by omega)
  have g := I.g
  unfold zPt at g
  unfold qbs_freeBanks qmd_freeBanks
  rw [show zgr zK0 M 11 15 1 0 = some 2 by simp only [g], Option.bind_some, zgk_ok rfl, Option.bind_some, la_count I.la, Option.bind_some, zgf_ok rfl, Option.bind_some, zgf_ok rfl, Option.bind_some, show T 60 0 = M 2 0 from (hT 60 0 rfl).trans ht.2.2.2.2.2.2.2.2.2.2.2.2.1, show T 60 1 = M 2 1 from (hT 60 1 rfl).trans ht.2.2.2.2.2.2.2.2.2.2.2.2.2.1]
  obtain ⟨N, hN⟩ : ∃ N, M 2 0 * M 2 1 = N := ⟨_, rfl⟩
  rw [hN] at hrc ⊢
  rw [zw_id (x := N) (by omega) (by omega), zw_id (x := 64) (by decide) (by decide)]
  by_cases c : N ≤ 64
  rotate_left
  · rw [if_neg c, if_neg c]
    exact ⟨_, _, _, _, rfl, rfl, rfl, zsa.rf M, hT⟩
  obtain ⟨P6, e1, e2, e3, e4⟩ := c_gather hn I (by omega)
  rw [hN] at e3
  rw [if_pos c, if_pos c, show zgr zK0 M 11 15 1 6 = some 16 by simp only [g], Option.bind_some, Option.bind_some, show zgr zK0 M 11 15 1 4 = some 7 by simp only [g], Option.bind_some, zgk_ok rfl, Option.bind_some, e1, Option.bind_some]
  have key : ∀ {σ τ : Type} (F : σ → Option (σ ⊕ (Int × zM))) (H : τ → Option (τ ⊕ (Int × zM))) (s0 : σ) (t0 : τ), (∃ x y, zwh F n s0 = some x ∧ zwh H n t0 = some y ∧ zw x.1 = zw y.1 ∧ zsa M x.2 ∧ zsa M y.2) → ∃ r P r' Q, zwh F n s0 = some (r, P) ∧ zwh H n t0 = some (r', Q) ∧ zw r = zw r' ∧ zsa M P ∧ zsa M Q := by
    rintro σ τ F H s0 t0 ⟨⟨x, P⟩, ⟨y, Q⟩, e1, e2, e3, e4, e5⟩
    exact ⟨_, _, _, _, e1, e2, e3, e4, e5⟩
  refine key _ _ _ _ (zwh2 (n := n) (R := fun (s t : Int × zM) => s.1 = t.1 ∧ 1 ≤ s.1 ∧ s.1 ≤ 18 ∧ zCb M s.2 N ∧ zsa M t.2) (fun s => (18 - s.1).toNat) _ ?_ _ _ ⟨rfl, by simp, by simp, ⟨e2, e3, e4⟩, hT⟩ (by dsimp only; omega))
  rintro ⟨m, P⟩ ⟨m', Q⟩ ⟨q1, q2, q3, q4, q5⟩
  dsimp only at q1 q2 q3 q4 q5 ⊢
  subst q1
  rw [zw_id (x := 17) (by decide) (by decide), zw_id (x := m) (by omega) (by omega)]
  by_cases d : 17 < m
  · right
    rw [if_pos d, if_pos d]
    exact ⟨_, _, rfl, rfl, rfl, q4.1, q5⟩
  rw [if_neg d, if_neg d]
  have gP := (I.keep q4.1).g
  unfold zPt at gP
  obtain ⟨P', f1, f2, f3⟩ := c_seek (m := m) hn I (by omega) c q2 (by omega) q4
  obtain ⟨Q', k1, k2, k3⟩ := m_laysFree (X := (62, fun _ => 0)) (m := m) hn I (Or.inr rfl) (zsx.of q5) hN c q2 (by omega)
  have rg := zrs_rg (N := N) (m := m) (ρ := zrv M) q2 (by omega)
  obtain ⟨r, hr⟩ : ∃ r, zrs N m (zrv M) (0, 0, 0, fun _ => 0) = r := ⟨_, rfl⟩
  rw [hr] at f1 f3 k1 k3 rg
  rw [show zgr zK0 P 11 15 1 6 = some 16 by simp only [gP], Option.bind_some, zgk_ok (r := 16) (ci := 0) (N := 5) rfl, Option.bind_some, f1, Option.bind_some, zgk_ok (r := 60) (ci := 12) (N := 49) rfl, Option.bind_some, k1, Option.bind_some]
  dsimp only
  rw [zw_id (x := r.1) (by omega) (by omega), zw_id (x := -6) (by decide) (by decide), zw_id (x := -4) (by decide) (by decide)]
  rcases rg with rg | rg | ⟨rg, rg2, -⟩
  · left
    rw [rg, if_pos (by decide), if_neg (by decide), if_pos rfl]
    exact ⟨_, _, rfl, rfl, ⟨rfl, by dsimp only; omega, by dsimp only; omega, f2, zsx.to k2⟩, by dsimp only; omega⟩
  · right
    rw [rg, if_pos (by decide), if_pos rfl, if_neg (by decide), if_pos rfl]
    exact ⟨_, _, rfl, rfl, rfl, f2.1, zsx.to k2⟩
  · right
    rw [if_neg (by omega), if_neg (by omega), if_neg (by omega)]
    exact ⟨_, _, rfl, rfl, rfl, f2.1, zsx.to k2⟩
/-- what is told behind a laying of the first c cells -/
def ztf (R C : Int) (g t : Int → Int) (c y : Int) : Int := if (y / 16 < R ∧ y % 16 < C) ∧ y / 16 * C + y % 16 < c then g (y / 16 * C + y % 16) else t y
theorem ztf_0 {R C : Int} {g t : Int → Int} {y : Int} (C0 : 1 ≤ C) (y0 : 0 ≤ y) : ztf R C g t 0 y = t y := by
  unfold ztf
  have : 0 ≤ y / 16 * C := Int.mul_nonneg (by omega) (by omega)
  rw [if_neg (by omega)]
theorem ztf_s {R C : Int} {g t : Int → Int} {c y : Int} (C0 : 1 ≤ C) (C1 : C ≤ 16) (c0 : 0 ≤ c) (c1 : c < R * C) (y0 : 0 ≤ y) : ztf R C g t (c + 1) y = if y = c / C * 16 + c % C then g c else ztf R C g t c y := by
  obtain ⟨d1, d2, d3, d4, d5⟩ := zdm (c := c) (R := R) (C := C) C0 c0 c1
  by_cases e : y = c / C * 16 + c % C
  · have e1 : y / 16 = c / C := by omega
    have e2 : y % 16 = c % C := by omega
    have e3 : c / C * C + c % C = c := by rw [Int.mul_comm]; omega
    unfold ztf
    rw [if_pos e, e1, e2, e3, if_pos (by omega)]
  · rw [if_neg e]
    unfold ztf
    by_cases f : y / 16 < R ∧ y % 16 < C
    · have ne : y / 16 * C + y % 16 ≠ c := by
        intro q
        have := zij (C := C) (i := y / 16) (j := y % 16) (by omega) f.2
        rw [q] at this
        omega
      by_cases h : y / 16 * C + y % 16 < c
      · rw [if_pos ⟨f, by omega⟩, if_pos ⟨f, h⟩]
      · rw [if_neg (fun q => by omega), if_neg (fun q => h q.2)]
    · rw [if_neg (fun q => f q.1), if_neg (fun q => f q.1)]
