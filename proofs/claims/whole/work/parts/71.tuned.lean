theorem la_addr4 {P : zM} (h : zLa P 4) {x : Int} (x0 : 0 ≤ x) (x1 : x ≤ 1000000) : qla_bankOfAddress zK0 P 4 x = some (zBs P 4 (x % (P 4 0 * P 4 1))) := by
  have hrc := zrc h.2.2.2.1 h.2.2.2.2.1 h.2.2.2.2.2.1 h.2.2.2.2.2.2.1
  have m0 := Int.emod_nonneg x (show P 4 0 * P 4 1 ≠ 0 by omega)
  have m1 := Int.emod_lt_of_pos x (show 0 < P 4 0 * P 4 1 by omega)
  obtain ⟨z1, z2, z3, z4, z5⟩ := la_at h m0 m1
  unfold qla_bankOfAddress
  rw [zgk_ok rfl, Option.bind_some, la_count h, Option.bind_some, zrm_ok x0 (by omega) (by omega) (by omega), Option.bind_some, zgf_ok rfl, Option.bind_some, z1, Option.bind_some, Option.bind_some, z2, Option.bind_some, Option.bind_some, z3]
  rfl
/-- the trial layout holds the x-th sum law of m banks -/
def zTl (M P : zM) (m x : Int) : Prop := zsa M P ∧ P 4 0 = M 2 0 ∧ P 4 1 = M 2 1 ∧ P 4 2 = m ∧ P 4 3 = 0 ∧ P 4 4 = x / m ∧ P 4 5 = x % m
/-- the reference's map is that law's -/
def zTm (M Q : zM) (m x : Int) : Prop := zsa M Q ∧ ∀ i j, 0 ≤ i → i < M 2 0 → 0 ≤ j → j < M 2 1 → Q 62 (16 * i + j) = zBv 0 (x / m) (x % m) m (M 3) i j
theorem j_tune {M : zM} {n : Nat} {p l a m x : Int} (hn : 1000000 ≤ n) (I : Iv M) (hp : zPr M p) (l0 : 1 ≤ l) (l1 : l ≤ 64) (m0 : 1 ≤ m) (m1 : m ≤ 17) (x0 : 0 ≤ x) (x1 : x < m * m) {P0 Q0 : zM} (hP : zTl M P0 m x) (hQ : zTm M Q0 m x) : ∃ P lat Q, qtm_run n zK0 P0 32 4 (M 1 14) p l a = some P ∧ qmd_runs n zK0 Q0 60 l a = some (lat, Q) ∧ zsa M P ∧ P 4 0 = M 2 0 ∧ P 4 1 = M 2 1 ∧ zsa M Q ∧ P 32 4 = lat ∧ 0 ≤ lat ∧ lat ≤ 20000 := by
  obtain ⟨h1, h2, h3, h4, h5, h6, h7⟩ := hP
  have ht := I.2.1
  unfold IvT at ht
  obtain ⟨d1, d2, d3, d4, d5⟩ := zdm (c := x) (R := m) (C := m) m0 x0 x1
  have hrc := zrc (R := M 2 0) (C := M 2 1) (by omega) (by omega) (by omega) (by omega)
  have hlw : zlw 0 (x / m) (x % m) m := ⟨by omega, by omega, d1, by omega, d3, by omega, m0, m1⟩
  have hS' := I.1
  unfold zSR at hS'
  obtain ⟨P, lat, Q, e1, e2, e3, e4, e5, e6, e7, -⟩ := j_run (P0 := P0) (Q0 := Q0) (L := 4) (A := P0 4) (D := Q0 62) (bk := fun y => zBv 0 (x / m) (x % m) m (M 3) (y % (M 2 0 * M 2 1) / M 2 1) (y % (M 2 0 * M 2 1) % M 2 1)) (a := a) (p := p) (l := l) hn I hp rfl (fun P hP y y0 y1 => by
    have hl : zLa P 4 := by
      refine ⟨rfl, (hP.1 4 6 rfl).trans (by simp [hS']), ?_, ?_, ?_, ?_, ?_, fun q => ?_⟩
      · rw [hP.2, hP.2, hP.2, hP.2, h4, h5, h6, h7]; exact hlw
      · rw [hP.2, h2]; omega
      · rw [hP.2, h2]; omega
      · rw [hP.2, h3]; omega
      · rw [hP.2, h3]; omega
      · rw [hP.2, h5] at q; omega
    rw [la_addr4 hl y0 y1]
    unfold zBs
    rw [hP.2, hP.2, hP.2, hP.2, hP.2, hP.2, h2, h3, h4, h5, h6, h7, show P 3 = M 3 from funext fun i => hP.1 3 i rfl]) (fun Q hq y y0 y1 => by
    have b0 := Int.emod_nonneg y (show M 2 0 * M 2 1 ≠ 0 by omega)
    have b1 := Int.emod_lt_of_pos y (show 0 < M 2 0 * M 2 1 by omega)
    obtain ⟨c1, c2, c3, c4, c5⟩ := zdm (c := y % (M 2 0 * M 2 1)) (R := M 2 0) (C := M 2 1) (by omega) b0 b1
    unfold qmd_bankAt
    rw [zgf_ok rfl, Option.bind_some, zgf_ok rfl, Option.bind_some, show Q 60 0 = M 2 0 from (hq.1 60 0 rfl).trans ht.2.2.2.2.2.2.2.2.2.2.2.2.1, show Q 60 1 = M 2 1 from (hq.1 60 1 rfl).trans ht.2.2.2.2.2.2.2.2.2.2.2.2.2.1, zrm_ok y0 (by omega) (by omega) (by omega), Option.bind_some, zgr_ok (v := 62) rfl ((hq.1 60 7 rfl).trans (by simp [hS'])) (by decide), Option.bind_some, Option.bind_some, zdv_ok b0 (by omega) (by omega) (by omega), Option.bind_some, Option.bind_some, zrm_ok b0 (by omega) (by omega) (by omega), Option.bind_some, zga_ok (N := 256) rfl (by decide) (by omega) (by omega), Option.bind_some, hq.2, hQ.2 _ _ c1 c2 c3 c4]) (fun y => by
    have b0 := Int.emod_nonneg y (show M 2 0 * M 2 1 ≠ 0 by omega)
    have b1 := Int.emod_lt_of_pos y (show 0 < M 2 0 * M 2 1 by omega)
    obtain ⟨c1, c2, c3, c4, c5⟩ := zdm (c := y % (M 2 0 * M 2 1)) (R := M 2 0) (C := M 2 1) (by omega) b0 b1
    have := zBv_rg (t := M 3) hlw (fun q => by omega) c1 (show _ < 16 by omega) c3 (show _ < 16 by omega)
    omega) l0 l1 ⟨h1, fun _ => rfl⟩ ⟨hQ.1, fun _ => rfl⟩
  exact ⟨P, lat, Q, e1, e2, e3.1, by rw [e3.2, h2], by rw [e3.2, h3], e4.1, e5, e6, e7⟩
/-- the best law among the first x -/
def zbs (Λ : Int → Int) : Nat → Int × Int
  | 0 => (0, -1)
  | x + 1 => if (zbs Λ x).2 < 0 ∨ Λ x < (zbs Λ x).2 then ((x : Int), Λ x) else zbs Λ x
theorem zbs_s {Λ : Int → Int} {x : Int} (h : 0 ≤ x) : zbs Λ (x + 1).toNat = if (zbs Λ x.toNat).2 < 0 ∨ Λ x < (zbs Λ x.toNat).2 then (x, Λ x) else zbs Λ x.toNat := by
  rw [show (x + 1).toNat = x.toNat + 1 by omega, zbs, show ((x.toNat : Nat) : Int) = x by omega]
theorem zbs_rg {Λ : Int → Int} {N : Int} (hΛ : ∀ x, 0 ≤ x → x < N → 0 ≤ Λ x ∧ Λ x ≤ 20000) : ∀ x : Nat, (x : Int) ≤ N → 0 ≤ (zbs Λ x).1 ∧ (zbs Λ x).1 ≤ x ∧ -1 ≤ (zbs Λ x).2 ∧ (zbs Λ x).2 ≤ 20000 := by
  intro x
  induction x with
  | zero => intro _; simp [zbs]
  | succ x ih =>
    intro h
    have i := ih (by omega)
    have l := hΛ x (by omega) (by omega)
    rw [zbs]
    split
    · dsimp only; omega
    · omega
theorem o_tuned {M : zM} {n : Nat} {a1 a2 a3 : Int} (hn : 1000000 ≤ n) (I : Iv M) (g1 : zrg a1) (g3 : zrg a3) : ∃ r M1 r' M2, qbs_tuned n zK0 M 1 a1 a2 a3 = some (r, M1) ∧ qmd_tuned n zK0 M1 60 a1 a2 a3 = some (r', M2) ∧ zw r = zw r' ∧ Iv M2 := by
  refine zjn (d := fun T => qmd_tuned n zK0 T 60 a1 a2 a3) I (fun T hT => ?_)
  try dsimp only
  obtain ⟨p, hp⟩ := I.pr
  have ht := I.2.1
  unfold IvT at ht
  have s1 : ¬ (1 : Int) = 0 := by decide
  have z0 : zw 0 = 0 := zwl.2.2.2.2.2.2.1
  have z1 : zw 1 = 1 := zwl.2.2.2.2.2.2.2.1
  have g := I.g
  unfold zPt at g
  unfold qbs_tuned qmd_tuned
  rw [zwit g1 (by decide) (by decide), m_isLong g1, Option.bind_some, Option.bind_some, zw_id g3.1 g3.2]
  by_cases c1 : 1 ≤ a1 ∧ a1 ≤ 64
  rotate_left
  · rw [if_neg c1, z0, if_pos rfl, if_pos rfl]
    exact ⟨_, _, _, _, rfl, rfl, rfl, zsa.rf M, hT⟩
  rw [if_pos c1, z1, if_neg s1, if_neg s1]
  rw [zwit g3 (by decide) (by decide), Option.bind_some, zinn g3 (by decide) (by decide), Option.bind_some]
  by_cases c3 : 0 ≤ a3 ∧ a3 ≤ 2
  rotate_left
  · rw [if_neg c3, z0, if_pos rfl, if_pos rfl]
    exact ⟨_, _, _, _, rfl, rfl, rfl, zsa.rf M, hT⟩
  rw [if_pos c3, z1, if_neg s1, if_neg s1]
  obtain ⟨m, hm⟩ : ∃ m, M 2 2 = m := ⟨_, rfl⟩
  have m0 : 1 ≤ m := by omega
  have m1 : m ≤ 17 := by omega
  have mm : m * m ≤ 17 * 17 := Int.mul_le_mul m1 m1 (by omega) (by omega)
  have mm0 : 1 * 1 ≤ m * m := Int.mul_le_mul m0 m0 (by omega) (by omega)
  have mkP : ∀ (P : zM) (u v : Int), 0 ≤ v → v < m → zsa M P → P 4 0 = M 2 0 → P 4 1 = M 2 1 → zTl M (zu (zu (zu (zu P 4 3 0) 4 4 u) 4 5 v) 4 2 m) m (u * m + v) := by
    intro P u v v0 v1 h1 h2 h3
    have ij := zij (C := m) (i := u) v0 v1
    refine ⟨(((h1.up rfl).up rfl).up rfl).up rfl, ?_, ?_, zu_e _ _ _ _, ?_, ?_, ?_⟩
    · rw [zu_m (by decide), zu_m (by decide), zu_m (by decide), zu_m (by decide), h2]
    · rw [zu_m (by decide), zu_m (by decide), zu_m (by decide), zu_m (by decide), h3]
    · rw [zu_m (by decide), zu_m (by decide), zu_m (by decide), zu_e]
    · rw [zu_m (by decide), zu_m (by decide), zu_e, ij.1]
    · rw [zu_m (by decide), zu_e, ij.2]
  have mkQ : ∀ (Q : zM) (x : Int), 0 ≤ x → x < m * m → zsa M Q → ∃ Q', qmd_lays n zK0 Q 60 0 (x / m) (x % m) m = some Q' ∧ zTm M Q' m x := by
    intro Q x x0 x1 hQ
    have IQ := I.keep hQ
    have hS' := IQ.1
    unfold zSR at hS'
    have hq := IQ.2.1
    unfold IvT at hq
    obtain ⟨d1, d2, d3, d4, d5⟩ := zdm (c := x) (R := m) (C := m) m0 x0 x1
    refine ⟨_, mlays (M := Q) (k := 0) (a := x / m) (b := x % m) (N := m) hn ⟨by omega, by omega, d1, by omega, d3, by omega, m0, m1⟩ (by simp [hS']) (by simp [hS']) (by omega) (by omega) (by omega) (by omega) (fun y y0 y1 => (hq.2.2.2.2.2.2.2.2.2.2.2.2.2.2.2.2.2.2 y y0 y1).1), ?_, ?_⟩
    · intro c i hc
      rw [zly_ne (fun e => by rw [e] at hc; cases hc)]
      exact hQ c i hc
    · intro i j i0 i1 j0 j1
      rw [zly_at i0 (by rw [hq.2.2.2.2.2.2.2.2.2.2.2.2.1, hQ 2 0 rfl]; exact i1) j0 (by rw [hq.2.2.2.2.2.2.2.2.2.2.2.2.2.1, hQ 2 1 rfl]; exact j1) (by omega), show Q 3 = M 3 from funext fun y => hQ 3 y rfl]
  have M5 : zsa M (zu (zu M 4 0 (M 2 0)) 4 1 (M 2 1)) := ((zsa.rf M).up rfl).up rfl
  have M50 : zu (zu M 4 0 (M 2 0)) 4 1 (M 2 1) 4 0 = M 2 0 := by rw [zu_m (by decide), zu_e]
  have M51 : zu (zu M 4 0 (M 2 0)) 4 1 (M 2 1) 4 1 = M 2 1 := by rw [zu_e]
  have ex : ∀ x, 0 ≤ x ∧ x < m * m → ∃ lat, 0 ≤ lat ∧ lat ≤ 20000 ∧ (∀ P0, zTl M P0 m x → ∃ P, qtm_run n zK0 P0 32 4 (M 1 14) p a1 a2 = some P ∧ zsa M P ∧ P 4 0 = M 2 0 ∧ P 4 1 = M 2 1 ∧ P 32 4 = lat) ∧ ∀ Q0, zTm M Q0 m x → ∃ Q, qmd_runs n zK0 Q0 60 a1 a2 = some (lat, Q) ∧ zsa M Q := by
    rintro x ⟨x0, x1⟩
    obtain ⟨d1, d2, d3, d4, d5⟩ := zdm (c := x) (R := m) (C := m) m0 x0 x1
    obtain ⟨Qs, -, hQs⟩ := mkQ T x x0 x1 hT
    have hPs := mkP _ (x / m) (x % m) d3 d4 M5 M50 M51
    rw [show x / m * m + x % m = x by rw [Int.mul_comm]; omega] at hPs
    obtain ⟨P, lat, Q, e1, e2, e3, e4, e5, e6, e7, e8, e9⟩ := j_tune (a := a2) hn I hp c1.1 c1.2 m0 m1 x0 x1 hPs hQs
    refine ⟨lat, e8, e9, fun P0 hP0 => ?_, fun Q0 hQ0 => ?_⟩
    · obtain ⟨P', lat', Q', f1, f2, f3, f4, f5, f6, f7, f8, f9⟩ := j_tune (a := a2) hn I hp c1.1 c1.2 m0 m1 x0 x1 hP0 hQs
      rw [e2] at f2
      injection f2 with f2
      injection f2 with f2 f2'
      exact ⟨P', f1, f3, f4, f5, by rw [f7, f2]⟩
    · obtain ⟨P', lat', Q', f1, f2, f3, f4, f5, f6, f7, f8, f9⟩ := j_tune (a := a2) hn I hp c1.1 c1.2 m0 m1 x0 x1 hPs hQ0
      rw [e1] at f1
      injection f1 with f1
      subst f1
      rw [e7] at f7
      subst f7
      exact ⟨Q', f2, f6⟩
  obtain ⟨Λ, hΛ⟩ : ∃ Λ : Int → Int, ∀ x, 0 ≤ x ∧ x < m * m → 0 ≤ Λ x ∧ Λ x ≤ 20000 ∧ (∀ P0, zTl M P0 m x → ∃ P, qtm_run n zK0 P0 32 4 (M 1 14) p a1 a2 = some P ∧ zsa M P ∧ P 4 0 = M 2 0 ∧ P 4 1 = M 2 1 ∧ P 32 4 = Λ x) ∧ ∀ Q0, zTm M Q0 m x → ∃ Q, qmd_runs n zK0 Q0 60 a1 a2 = some (Λ x, Q) ∧ zsa M Q := by
    refine ⟨fun x => if h : 0 ≤ x ∧ x < m * m then (ex x h).choose else 0, fun x h => ?_⟩
    dsimp only
    rw [dif_pos h]
    exact (ex x h).choose_spec
  have hb := zbs_rg (Λ := Λ) (N := m * m) (fun x x0 x1 => ⟨(hΛ x ⟨x0, x1⟩).1, (hΛ x ⟨x0, x1⟩).2.1⟩)
  obtain ⟨B, hB⟩ : ∃ B, zbs Λ (m * m).toNat = B := ⟨_, rfl⟩
  have rB := hb (m * m).toNat (by omega)
  rw [hB] at rB
  unfold qla_takeTable
  rw [show zgr zK0 M 11 15 1 1 = some 4 by simp only [g], Option.bind_some, show zgr zK0 M 11 15 1 0 = some 2 by simp only [g], Option.bind_some, zgk_ok (r := 4) (ci := 2) (N := 7) rfl, Option.bind_some, zgf_ok rfl, Option.bind_some, zpf_ok rfl, Option.bind_some, zgf_ok rfl, Option.bind_some, zpf_ok rfl, Option.bind_some, zu_n (show (2 : Int) ≠ 4 by decide), Option.bind_some]
  obtain ⟨P5, hP5⟩ : ∃ P5, zu (zu M 4 0 (M 2 0)) 4 1 (M 2 1) = P5 := ⟨_, rfl⟩
  rw [hP5] at M5 M50 M51 ⊢
  have key : ∀ (F : Int × Int × Int × Int × zM → Option ((Int × Int × Int × Int × zM) ⊕ (Int × zM))) (G : Int × Int × Int × zM → Option ((Int × Int × Int × zM) ⊕ (Int × Int × Int × zM))), (∃ x, zwh F n (0, 0, -1, 0, P5) = some x ∧ x.1 = (if a3 = 0 then B.1 / m else if a3 = 1 then B.1 % m else B.2) ∧ zsa M x.2) → (∃ y, zwh G n (0, -1, 0, T) = some y ∧ y.1 = B.1 ∧ y.2.1 = B.2 ∧ zsa M y.2.2.2) → ∃ r P r' Q, zwh F n (0, 0, -1, 0, P5) = some (r, P) ∧ ((zwh G n (0, -1, 0, T)).bind fun e4 =>
      if a3 = 0 then
        (zgf zK0 e4.2.2.2 12 49 60 2).bind fun v5 =>
        (zdv e4.1 v5).bind fun v6 =>
        some (v6, e4.2.2.2)
      else
        if a3 = 1 then
          (zgf zK0 e4.2.2.2 12 49 60 2).bind fun v7 =>
          (zrm e4.1 v7).bind fun v8 =>
          some (v8, e4.2.2.2)
        else
          some (e4.2.1, e4.2.2.2)) = some (r', Q) ∧ zw r = zw r' ∧ zsa M P ∧ zsa M Q := by
    rintro F G ⟨⟨x1, x2⟩, e1, e2, e3⟩ ⟨⟨y1, y2, y3, y4⟩, f1, f2, f3, f4⟩
    dsimp only at e2 e3 f2 f3 f4
    subst f2 f3
    rw [e1, f1, Option.bind_some]
    dsimp only
    rw [zgf_ok rfl, Option.bind_some, Option.bind_some, show y4 60 2 = m from ((f4 60 2 rfl).trans ht.2.2.2.2.2.2.2.2.2.2.2.2.2.2.1).trans hm, zdv_ok rB.1 (by omega) (by omega) (by omega), zrm_ok rB.1 (by omega) (by omega) (by omega), Option.bind_some, Option.bind_some, e2]
    by_cases w : a3 = 0
    · rw [if_pos w, if_pos w]
      exact ⟨_, _, _, _, rfl, rfl, rfl, e3, f4⟩
    · rw [if_neg w, if_neg w]
      by_cases v : a3 = 1
      · rw [if_pos v, if_pos v]
        exact ⟨_, _, _, _, rfl, rfl, rfl, e3, f4⟩
      · rw [if_neg v, if_neg v]
        exact ⟨_, _, _, _, rfl, rfl, rfl, e3, f4⟩
  refine key _ _ (zwh_inv (fun s => 0 ≤ s.2.2.2.1 ∧ s.2.2.2.1 ≤ m ∧ zsa M s.2.2.2.2 ∧ s.2.2.2.2 4 0 = M 2 0 ∧ s.2.2.2.2 4 1 = M 2 1 ∧ s.1 = (zbs Λ (s.2.2.2.1 * m).toNat).1 / m ∧ s.2.1 = (zbs Λ (s.2.2.2.1 * m).toNat).1 % m ∧ s.2.2.1 = (zbs Λ (s.2.2.2.1 * m).toNat).2) (fun s => (m - s.2.2.2.1).toNat) _ ?_ n _ ⟨by simp, by dsimp only; omega, M5, M50, M51, by simp [zbs], by simp [zbs], by simp [zbs]⟩ (by dsimp only; omega)) (zwh_inv (fun s => 0 ≤ s.2.2.1 ∧ s.2.2.1 ≤ m * m ∧ zsa M s.2.2.2 ∧ s.1 = (zbs Λ s.2.2.1.toNat).1 ∧ s.2.1 = (zbs Λ s.2.2.1.toNat).2) (fun s => (m * m - s.2.2.1).toNat) _ ?_ n _ ⟨by simp, by dsimp only; omega, hT, rfl, rfl⟩ (by dsimp only; omega))
  · rintro ⟨bA, bB, be, u, P⟩ ⟨u0, u1, h1, h2, h3, h4, h5, h6⟩
    dsimp only at u0 u1 h1 h2 h3 h4 h5 h6 ⊢
    have gP := (I.keep h1).g
    unfold zPt at gP
    rw [show zgr zK0 P 11 15 1 0 = some 2 by simp only [gP], Option.bind_some, zgf_ok rfl, Option.bind_some, show P 2 2 = m from (h1 2 2 rfl).trans hm, zw_id (x := m) (by omega) (by omega), zw_id (x := u) (by omega) (by omega)]
    by_cases c : m ≤ u
    · right
      have : u = m := by omega
      subst this
      rw [hB] at h4 h5 h6
      rw [if_pos c]
      by_cases w : a3 = 0
      · rw [if_pos w]
        exact ⟨_, rfl, by rw [if_pos w]; exact h4, h1⟩
      · rw [if_neg w]
        by_cases v : a3 = 1
        · rw [if_pos v]
          exact ⟨_, rfl, by rw [if_neg w, if_pos v]; exact h5, h1⟩
        · rw [if_neg v]
          exact ⟨_, rfl, by rw [if_neg w, if_neg v]; exact h6, h1⟩
    · left
      rw [if_neg c]
      have inner : ∀ F : Int × Int × Int × Int × zM → Option ((Int × Int × Int × Int × zM) ⊕ (Int × Int × Int × Int × zM)), (∀ v P, 0 ≤ v → v < m → zsa M P → P 4 0 = M 2 0 → P 4 1 = M 2 1 → ∃ P', F ((zbs Λ (u * m + v).toNat).1 / m, (zbs Λ (u * m + v).toNat).1 % m, (zbs Λ (u * m + v).toNat).2, v, P) = some (.inl ((zbs Λ (u * m + (v + 1)).toNat).1 / m, (zbs Λ (u * m + (v + 1)).toNat).1 % m, (zbs Λ (u * m + (v + 1)).toNat).2, v + 1, P')) ∧ zsa M P' ∧ P' 4 0 = M 2 0 ∧ P' 4 1 = M 2 1) → (∀ x y z P, zsa M P → F (x, y, z, m, P) = some (.inr (x, y, z, m, P))) → ∃ P', zwh F n (bA, bB, be, 0, P) = some ((zbs Λ (u * m + m).toNat).1 / m, (zbs Λ (u * m + m).toNat).1 % m, (zbs Λ (u * m + m).toNat).2, m, P') ∧ zsa M P' ∧ P' 4 0 = M 2 0 ∧ P' 4 1 = M 2 1 := by
        intro F f1 f2
        obtain ⟨⟨r1, r2, r3, r4, r5⟩, e1, e2, e3, e4, e5⟩ := zwh_inv (f := F) (fun s => 0 ≤ s.2.2.2.1 ∧ s.2.2.2.1 ≤ m ∧ zsa M s.2.2.2.2 ∧ s.2.2.2.2 4 0 = M 2 0 ∧ s.2.2.2.2 4 1 = M 2 1 ∧ s.1 = (zbs Λ (u * m + s.2.2.2.1).toNat).1 / m ∧ s.2.1 = (zbs Λ (u * m + s.2.2.2.1).toNat).1 % m ∧ s.2.2.1 = (zbs Λ (u * m + s.2.2.2.1).toNat).2) (fun s => (m - s.2.2.2.1).toNat) (fun r => r = ((zbs Λ (u * m + m).toNat).1 / m, (zbs Λ (u * m + m).toNat).1 % m, (zbs Λ (u * m + m).toNat).2, m, r.2.2.2.2) ∧ zsa M r.2.2.2.2 ∧ r.2.2.2.2 4 0 = M 2 0 ∧ r.2.2.2.2 4 1 = M 2 1) (by
          rintro ⟨x, y, z, v, P⟩ ⟨v0, v1, k1, k2, k3, k4, k5, k6⟩
          dsimp only at v0 v1 k1 k2 k3 k4 k5 k6 ⊢
          subst k4 k5 k6
          by_cases d : v < m
          · left
            obtain ⟨P', q1, q2, q3, q4⟩ := f1 v P v0 d k1 k2 k3
            exact ⟨_, q1, ⟨by dsimp only; omega, by dsimp only; omega, q2, q3, q4, rfl, rfl, rfl⟩, by dsimp only; omega⟩
          · right
            have : v = m := by omega
            subst this
            exact ⟨_, f2 _ _ _ P k1, rfl, k1, k2, k3⟩) n (bA, bB, be, 0, P) ⟨by simp, by dsimp only; omega, h1, h2, h3, by dsimp only; rw [Int.add_zero]; exact h4, by dsimp only; rw [Int.add_zero]; exact h5, by dsimp only; rw [Int.add_zero]; exact h6⟩ (by dsimp only; omega)
        dsimp only at e2 e3 e4 e5
        rw [e2] at e1
        exact ⟨_, e1, e3, e4, e5⟩
      have key2 : ∀ F : Int × Int × Int × Int × zM → Option ((Int × Int × Int × Int × zM) ⊕ (Int × Int × Int × Int × zM)), (∃ P', zwh F n (bA, bB, be, 0, P) = some ((zbs Λ (u * m + m).toNat).1 / m, (zbs Λ (u * m + m).toNat).1 % m, (zbs Λ (u * m + m).toNat).2, m, P') ∧ zsa M P' ∧ P' 4 0 = M 2 0 ∧ P' 4 1 = M 2 1) → ∃ s', ((zwh F n (bA, bB, be, 0, P)).bind fun e10 => some (Sum.inl (e10.1, e10.2.1, e10.2.2.1, u + 1, e10.2.2.2.2) : (Int × Int × Int × Int × zM) ⊕ (Int × zM))) = some (.inl s') ∧ (0 ≤ s'.2.2.2.1 ∧ s'.2.2.2.1 ≤ m ∧ zsa M s'.2.2.2.2 ∧ s'.2.2.2.2 4 0 = M 2 0 ∧ s'.2.2.2.2 4 1 = M 2 1 ∧ s'.1 = (zbs Λ (s'.2.2.2.1 * m).toNat).1 / m ∧ s'.2.1 = (zbs Λ (s'.2.2.2.1 * m).toNat).1 % m ∧ s'.2.2.1 = (zbs Λ (s'.2.2.2.1 * m).toNat).2) ∧ (m - s'.2.2.2.1).toNat < (m - u).toNat := by
        rintro F ⟨P', e1, e2, e3, e4⟩
        rw [e1]
        have em : (u + 1) * m = u * m + m := by rw [Int.add_mul, Int.one_mul]
        refine ⟨_, rfl, ⟨by dsimp only; omega, by dsimp only; omega, e2, e3, e4, ?_, ?_, ?_⟩, by dsimp only; omega⟩
        · dsimp only; rw [em]
        · dsimp only; rw [em]
        · dsimp only; rw [em]
      refine key2 _ (inner _ ?_ ?_)
      · intro v P v0 v1 k1 k2 k3
        dsimp only
        have gP := (I.keep k1).g
        unfold zPt at gP
        have hx := zlin (R := m) (C := m) u0 (show u < m by omega) v0 v1
        have ij := zij (C := m) (i := u) v0 v1
        have tl := mkP P u v v0 v1 k1 k2 k3
        obtain ⟨L0, L1, L2, L3⟩ := hΛ (u * m + v) hx
        obtain ⟨P', q1, q2, q3, q4, q5⟩ := L2 _ tl
        have gt := (I.keep tl.1).g
        unfold zPt at gt
        have gP' := (I.keep q2).g
        unfold zPt at gP'
        have bs := zbs_s (Λ := Λ) hx.1
        have rb := hb (u * m + v).toNat (by omega)
        unfold qla_takeLaw
        rw [show zgr zK0 P 11 15 1 0 = some 2 by simp only [gP], Option.bind_some, zgf_ok rfl, Option.bind_some, show P 2 2 = m from (k1 2 2 rfl).trans hm, zw_id (x := m) (by omega) (by omega), zw_id (x := v) (by omega) (by omega), if_neg (by omega), show zgr zK0 P 11 15 1 1 = some 4 by simp only [gP], Option.bind_some, Option.bind_some, zgf_ok rfl, Option.bind_some, show P 2 2 = m from (k1 2 2 rfl).trans hm, zgk_ok (r := 4) (ci := 2) (N := 7) rfl, Option.bind_some, zpf_ok rfl, Option.bind_some, zpf_ok rfl, Option.bind_some, zpf_ok rfl, Option.bind_some, zpf_ok rfl, Option.bind_some, Option.bind_some]
        rw [show zgr zK0 (zu (zu (zu (zu P 4 3 0) 4 4 u) 4 5 v) 4 2 m) 11 15 1 10 = some 32 by simp only [gt], Option.bind_some, show zgr zK0 (zu (zu (zu (zu P 4 3 0) 4 4 u) 4 5 v) 4 2 m) 11 15 1 1 = some 4 by simp only [gt], Option.bind_some, zgf_ok rfl, Option.bind_some, zpr12 hp tl.1, Option.bind_some, zgk_ok (r := 32) (ci := 9) (N := 5) rfl, Option.bind_some, show zu (zu (zu (zu P 4 3 0) 4 4 u) 4 5 v) 4 2 m 1 14 = M 1 14 from tl.1 1 14 rfl, q1, Option.bind_some, show zgr zK0 P' 11 15 1 10 = some 32 by simp only [gP'], Option.bind_some, zgf_ok rfl, Option.bind_some, Option.bind_some, zgf_ok rfl, Option.bind_some, q5, zw_id (x := (zbs Λ (u * m + v).toNat).2) (by omega) (by omega), zw_id (x := Λ (u * m + v)) (by omega) (by omega)]
        rw [← Int.add_assoc, bs]
        by_cases w : (zbs Λ (u * m + v).toNat).2 < 0
        · rw [if_pos w, if_pos (Or.inl w), ij.1, ij.2]
          exact ⟨P', rfl, q2, q3, q4⟩
        · rw [if_neg w]
          by_cases y : (zbs Λ (u * m + v).toNat).2 ≤ Λ (u * m + v)
          · rw [if_pos y, if_neg (by omega)]
            exact ⟨P', rfl, q2, q3, q4⟩
          · rw [if_neg y, if_pos (Or.inr (by omega)), ij.1, ij.2]
            exact ⟨P', rfl, q2, q3, q4⟩
      · intro x y z P k1
        dsimp only
        have gP := (I.keep k1).g
        unfold zPt at gP
        rw [show zgr zK0 P 11 15 1 0 = some 2 by simp only [gP], Option.bind_some, zgf_ok rfl, Option.bind_some, show P 2 2 = m from (k1 2 2 rfl).trans hm, if_pos (by omega)]
  · rintro ⟨bx, be, x, Q⟩ ⟨x0, x1, h1, h2, h3⟩
    dsimp only at x0 x1 h1 h2 h3 ⊢
    rw [zgf_ok rfl, Option.bind_some, Option.bind_some, show Q 60 2 = m from ((h1 60 2 rfl).trans ht.2.2.2.2.2.2.2.2.2.2.2.2.2.2.1).trans hm, zw_id (x := m * m) (by omega) (by omega), zw_id (x := x) (by omega) (by omega)]
    by_cases c : m * m ≤ x
    · right
      have : x = m * m := by omega
      rw [this, hB] at h2 h3
      rw [if_pos c]
      exact ⟨_, rfl, h2, h3, h1⟩
    · left
      obtain ⟨Q1, q1, q2⟩ := mkQ Q x x0 (by omega) h1
      obtain ⟨L0, L1, L2, L3⟩ := hΛ x ⟨x0, by omega⟩
      obtain ⟨Q2, q3, q4⟩ := L3 Q1 q2
      have bs := zbs_s (Λ := Λ) x0
      have rb := hb x.toNat (by omega)
      rw [if_neg c, Option.bind_some, zdv_ok x0 (by omega) (by omega) (by omega), Option.bind_some, Option.bind_some, zrm_ok x0 (by omega) (by omega) (by omega), Option.bind_some, Option.bind_some, zgk_ok (r := 60) (ci := 12) (N := 49) rfl, Option.bind_some, q1, Option.bind_some, Option.bind_some, q3, Option.bind_some]
      dsimp only
      rw [zw_id (x := be) (by omega) (by omega), zw_id (x := Λ x) (by omega) (by omega)]
      by_cases w : be < 0
      · rw [if_pos w]
        refine ⟨_, rfl, ⟨by dsimp only; omega, by dsimp only; omega, q4, ?_, ?_⟩, by dsimp only; omega⟩
        · dsimp only; rw [bs, if_pos (Or.inl (by omega))]
        · dsimp only; rw [bs, if_pos (Or.inl (by omega))]
      · rw [if_neg w]
        by_cases y : be ≤ Λ x
        · rw [if_pos y]
          refine ⟨_, rfl, ⟨by dsimp only; omega, by dsimp only; omega, q4, ?_, ?_⟩, by dsimp only; omega⟩
          · dsimp only; rw [bs, if_neg (by omega)]; exact h2
          · dsimp only; rw [bs, if_neg (by omega)]; exact h3
        · rw [if_neg y]
          refine ⟨_, rfl, ⟨by dsimp only; omega, by dsimp only; omega, q4, ?_, ?_⟩, by dsimp only; omega⟩
          · dsimp only; rw [bs, if_pos (Or.inr (by omega))]
          · dsimp only; rw [bs, if_pos (Or.inr (by omega))]
