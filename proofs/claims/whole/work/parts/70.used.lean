theorem o_when {M : zM} {n : Nat} {a1 a2 a3 a4 a5 : Int} (hn : 1000000 ≤ n) (I : Iv M) (g1 : zrg a1) (g3 : zrg a3) (g4 : zrg a4) (g5 : zrg a5) : ∃ r M1 r' M2, qbs_when n zK0 M 1 a1 a2 a3 a4 a5 = some (r, M1) ∧ qmd_when n zK0 M1 60 a1 a2 a3 a4 a5 = some (r', M2) ∧ zw r = zw r' ∧ Iv M2 := by
  refine zjn (d := fun T => qmd_when n zK0 T 60 a1 a2 a3 a4 a5) I (fun T hT => ?_)
  try dsimp only
  obtain ⟨p, hp⟩ := I.pr
  obtain ⟨p0, p1, p2, p3, p4, p5⟩ := id hp
  obtain ⟨y1, -⟩ := zprK p0
  have s1 : ¬ (1 : Int) = 0 := by decide
  have z0 : zw 0 = 0 := zwl.2.2.2.2.2.2.1
  have z1 : zw 1 = 1 := zwl.2.2.2.2.2.2.2.1
  have g := I.g
  unfold zPt at g
  have gp := zpr12 hp (zsa.rf M)
  unfold qbs_when qmd_when
  rw [zwit g1 (by decide) (by decide), m_isLong g1, Option.bind_some, Option.bind_some, zw_id g4.1 g4.2, zw_id g5.1 g5.2]
  by_cases c1 : 1 ≤ a1 ∧ a1 ≤ 64
  rotate_left
  · rw [if_neg c1, z0, if_pos rfl, if_pos rfl]
    exact ⟨_, _, _, _, rfl, rfl, rfl, zsa.rf M, hT⟩
  rw [if_pos c1, z1, if_neg s1, if_neg s1]
  rw [gp, Option.bind_some, zgf_ok y1, Option.bind_some, zwit g3 (by decide) (by unfold zrg; omega), Option.bind_some, zgk_ok (r := 60) (ci := 12) (N := 49) rfl, Option.bind_some, m_isLine g3 ((hT 60 24 rfl).trans p4) p2 p3, Option.bind_some]
  by_cases c3 : 0 ≤ a3 ∧ a3 ≤ M p 6 - 1
  rotate_left
  · rw [if_neg c3, z0, if_pos rfl, if_pos rfl]
    exact ⟨_, _, _, _, rfl, rfl, rfl, zsa.rf M, hT⟩
  rw [if_pos c3, z1, if_neg s1, if_neg s1]
  rw [zwit g4 (by decide) (by unfold zrg; omega), Option.bind_some, zw_id (x := a1 - 1) (by omega) (by omega), zinn g4 (by decide) (by unfold zrg; omega), Option.bind_some]
  by_cases c4 : 0 ≤ a4 ∧ a4 ≤ a1 - 1
  rotate_left
  · rw [if_neg c4, z0, if_pos rfl, if_pos rfl]
    exact ⟨_, _, _, _, rfl, rfl, rfl, zsa.rf M, hT⟩
  rw [if_pos c4, z1, if_neg s1, if_neg s1]
  rw [zwit g5 (by decide) (by decide), Option.bind_some, zinn g5 (by decide) (by decide), Option.bind_some]
  by_cases c5 : 0 ≤ a5 ∧ a5 ≤ 1
  rotate_left
  · rw [if_neg c5, z0, if_pos rfl, if_pos rfl]
    exact ⟨_, _, _, _, rfl, rfl, rfl, zsa.rf M, hT⟩
  rw [if_pos c5, z1, if_neg s1, if_neg s1]
  obtain ⟨P, lat, Q, e1, e2, e3, e4, e5, e6, e7, e8, e9⟩ := j_run2 (a := a2) hn I hp c1.1 c1.2 T hT
  have gP := (I.keep e3).g
  unfold zPt at gP
  have gQ := (I.keep e4).g
  unfold zPt at gQ
  rw [show zgr zK0 M 11 15 1 10 = some 32 by simp only [g], Option.bind_some, show zgr zK0 M 11 15 1 0 = some 2 by simp only [g], Option.bind_some, zgf_ok rfl, Option.bind_some, Option.bind_some, zgk_ok (r := 32) (ci := 9) (N := 5) rfl, Option.bind_some, e1, Option.bind_some, Option.bind_some, mlaysNow hn (I.keep hT), Option.bind_some, Option.bind_some, e2, Option.bind_some]
  obtain ⟨x1, x2, x3, x4, x5⟩ := e8.2.2.1 a3 a4 c3.1 c4.1 (by omega) (Or.inl (by omega))
  have go : qtm_goesAt zK0 P 32 a3 a4 = some (P 33 (64 * a3 + a4)) := by
    unfold qtm_goesAt
    rw [show zgr zK0 P 9 5 32 0 = some 33 by simp only [gP], Option.bind_some, show a3 * 64 + a4 = 64 * a3 + a4 by omega, zga_ok (N := 1024) rfl (by decide) (by omega) (by omega), Option.bind_some]
  have th : qtm_thereAt zK0 P 32 a3 a4 = some (P 33 (64 * a3 + a4) + P 34 a3) := by
    unfold qtm_thereAt
    rw [zgk_ok rfl, Option.bind_some, go, Option.bind_some, show zgr zK0 P 9 5 32 1 = some 34 by simp only [gP], Option.bind_some, zga_ok (N := 16) rfl (by decide) c3.1 (by omega), Option.bind_some]
  dsimp only
  by_cases w : a5 = 0
  · rw [if_pos w, if_pos w, show zgr zK0 P 11 15 1 10 = some 32 by simp only [gP], Option.bind_some, zgk_ok (r := 32) (ci := 9) (N := 5) rfl, Option.bind_some, go, Option.bind_some, show zgr zK0 Q 12 49 60 43 = some 82 by simp only [gQ], Option.bind_some, zga_ok (N := 1024) rfl (by decide) (by omega) (by omega), Option.bind_some, x1]
    exact ⟨_, _, _, _, rfl, rfl, rfl, e3, e4⟩
  · rw [if_neg w, if_neg w, show zgr zK0 P 11 15 1 10 = some 32 by simp only [gP], Option.bind_some, zgk_ok (r := 32) (ci := 9) (N := 5) rfl, Option.bind_some, th, Option.bind_some, show zgr zK0 Q 12 49 60 44 = some 83 by simp only [gQ], Option.bind_some, zga_ok (N := 1024) rfl (by decide) (by omega) (by omega), Option.bind_some, x2]
    exact ⟨_, _, _, _, rfl, rfl, rfl, e3, e4⟩
theorem c_lines {M : zM} {n : Nat} {p u : Int} (hn : 1000000 ≤ n) (I : Iv M) (hp : zPr M p) (gu : zrg u) : qpr_linesOf n zK0 M p u = some (zcn (fun k => decide (zun (M (p + 1) k) = u)) (M p 6).toNat) := by
  obtain ⟨p0, p1, p2, p3, p4, p5⟩ := id hp
  obtain ⟨y1, y2, -⟩ := zprK p0
  have gp := zprG I.g p0
  unfold qpr_linesOf
  refine zwh_eq (fun s => 0 ≤ s.2 ∧ s.2 ≤ M p 6 ∧ s.1 = zcn (fun k => decide (zun (M (p + 1) k) = u)) s.2.toNat) (fun s => (M p 6 - s.2).toNat) ?_ n _ ⟨by simp, by dsimp only; omega, rfl⟩ (by dsimp only; omega)
  rintro ⟨a, k⟩ ⟨k0, k1, hk⟩
  dsimp only at k0 k1 hk ⊢
  rw [zgf_ok y1, Option.bind_some, zw_id (x := M p 6) (by omega) (by omega), zw_id (x := k) (by omega) (by omega)]
  by_cases c : M p 6 ≤ k
  · right
    have : k = M p 6 := by omega
    rw [if_pos c, hk, this]
  · left
    obtain ⟨l1, -⟩ := p5 k k0 (by omega)
    obtain ⟨c1, c2, -⟩ := l1
    have hun : 0 ≤ zun (M (p + 1) k) ∧ zun (M (p + 1) k) < 3 := by unfold zun; split <;> (try split) <;> omega
    rw [if_neg c, gp.1, Option.bind_some, zga_ok (N := 16) y2 (by decide) k0 (by omega), Option.bind_some, c_unit c1 c2, Option.bind_some, zw_id (x := zun (M (p + 1) k)) (by omega) (by omega), zw_id gu.1 gu.2]
    refine ⟨(zcn (fun k => decide (zun (M (p + 1) k) = u)) (k + 1).toNat, k + 1), ?_, ⟨by dsimp only; omega, by dsimp only; omega, rfl⟩, by dsimp only; omega⟩
    rw [zcn_s k0, hk]
    by_cases w : zun (M (p + 1) k) = u
    · rw [if_pos w, Option.bind_some, Option.bind_some, if_pos (decide_eq_true w)]
    · rw [if_neg w, Option.bind_some, Option.bind_some, if_neg (by simp [w])]
theorem o_used {M : zM} {n : Nat} {a1 a2 a3 a4 : Int} (hn : 1000000 ≤ n) (I : Iv M) (g1 : zrg a1) (g3 : zrg a3) (g4 : zrg a4) : ∃ r M1 r' M2, qbs_used n zK0 M 1 a1 a2 a3 a4 = some (r, M1) ∧ qmd_used n zK0 M1 60 a1 a2 a3 a4 = some (r', M2) ∧ zw r = zw r' ∧ Iv M2 := by
  refine zjn (d := fun T => qmd_used n zK0 T 60 a1 a2 a3 a4) I (fun T hT => ?_)
  try dsimp only
  obtain ⟨p, hp⟩ := I.pr
  obtain ⟨p0, p1, p2, p3, p4, p5⟩ := id hp
  obtain ⟨y1, -⟩ := zprK p0
  have s1 : ¬ (1 : Int) = 0 := by decide
  have z0 : zw 0 = 0 := zwl.2.2.2.2.2.2.1
  have z1 : zw 1 = 1 := zwl.2.2.2.2.2.2.2.1
  have g := I.g
  unfold zPt at g
  have gp := zpr12 hp (zsa.rf M)
  unfold qbs_used qmd_used
  rw [zwit g1 (by decide) (by decide), m_isLong g1, Option.bind_some, Option.bind_some, zw_id g3.1 g3.2, zw_id g4.1 g4.2]
  by_cases c1 : 1 ≤ a1 ∧ a1 ≤ 64
  rotate_left
  · rw [if_neg c1, z0, if_pos rfl, if_pos rfl]
    exact ⟨_, _, _, _, rfl, rfl, rfl, zsa.rf M, hT⟩
  rw [if_pos c1, z1, if_neg s1, if_neg s1]
  rw [zwit g3 (by decide) (by decide), Option.bind_some, zinn g3 (by decide) (by decide), Option.bind_some]
  by_cases c3 : 0 ≤ a3 ∧ a3 ≤ 2
  rotate_left
  · rw [if_neg c3, z0, if_pos rfl, if_pos rfl]
    exact ⟨_, _, _, _, rfl, rfl, rfl, zsa.rf M, hT⟩
  rw [if_pos c3, z1, if_neg s1, if_neg s1]
  rw [zwit g4 (by decide) (by decide), Option.bind_some, zinn g4 (by decide) (by decide), Option.bind_some]
  by_cases c4 : 0 ≤ a4 ∧ a4 ≤ 1
  rotate_left
  · rw [if_neg c4, z0, if_pos rfl, if_pos rfl]
    exact ⟨_, _, _, _, rfl, rfl, rfl, zsa.rf M, hT⟩
  rw [if_pos c4, z1, if_neg s1, if_neg s1]
  obtain ⟨P, lat, Q, e1, e2, e3, e4, e5, e6, e7, e8, e9⟩ := j_run2 (a := a2) hn I hp c1.1 c1.2 T hT
  have gP := (I.keep e3).g
  unfold zPt at gP
  have gQ := (I.keep e4).g
  unfold zPt at gQ
  have q25 : zgr zK0 Q 12 49 60 25 = some 73 := by simp only [gQ]
  obtain ⟨cn, hcn⟩ : ∃ cn, zcn (fun k => decide (zun (M (p + 1) k) = a3)) (M p 6).toNat = cn := ⟨_, rfl⟩
  have ref : ∀ F : Int × Int → Option ((Int × Int) ⊕ (Int × zM)), (∀ v k, 0 ≤ k → k < M p 6 → F (v, k) = some (.inl (v + (if zun (M (p + 1) k) = a3 then a1 else 0), k + 1))) → (∀ v, F (v, M p 6) = some (.inr (if a4 = 0 then (v, Q) else (lat, Q)))) → zwh F n (0, 0) = some (if a4 = 0 then (cn * a1, Q) else (lat, Q)) := by
    intro F f1 f2
    refine zwh_eq (fun s => 0 ≤ s.2 ∧ s.2 ≤ M p 6 ∧ s.1 = zcn (fun k => decide (zun (M (p + 1) k) = a3)) s.2.toNat * a1) (fun s => (M p 6 - s.2).toNat) ?_ n _ ⟨by simp, by dsimp only; omega, by simp [zcn]⟩ (by dsimp only; omega)
    rintro ⟨v, k⟩ ⟨k0, k1, hk⟩
    dsimp only at k0 k1 hk ⊢
    by_cases c : k < M p 6
    · left
      refine ⟨_, f1 v k k0 c, ⟨by dsimp only; omega, by dsimp only; omega, ?_⟩, by dsimp only; omega⟩
      dsimp only
      rw [zcn_s k0, hk, Int.add_mul]
      by_cases w : zun (M (p + 1) k) = a3
      · rw [if_pos w, if_pos (decide_eq_true w), Int.one_mul]
      · rw [if_neg w, if_neg (by simp [w]), Int.zero_mul]
    · right
      have : k = M p 6 := by omega
      subst this
      rw [f2, hk, hcn]
  rw [zgk_ok (r := 60) (ci := 12) (N := 49) rfl, Option.bind_some, mlaysNow hn (I.keep hT), Option.bind_some, Option.bind_some, e2, Option.bind_some]
  rw [ref]
  · by_cases w : a4 = 0
    · rw [if_pos w, if_pos w, gp, Option.bind_some, zgk_ok y1, Option.bind_some, c_lines hn I hp g3, Option.bind_some, hcn]
      exact ⟨_, _, _, _, rfl, rfl, rfl, zsa.rf M, e4⟩
    · rw [if_neg w, if_neg w, show zgr zK0 M 11 15 1 10 = some 32 by simp only [g], Option.bind_some, show zgr zK0 M 11 15 1 0 = some 2 by simp only [g], Option.bind_some, zgf_ok rfl, Option.bind_some, gp, Option.bind_some, zgk_ok (r := 32) (ci := 9) (N := 5) rfl, Option.bind_some, e1, Option.bind_some, show zgr zK0 P 11 15 1 10 = some 32 by simp only [gP], Option.bind_some, zgf_ok rfl, Option.bind_some]
      exact ⟨_, _, _, _, rfl, rfl, by rw [e5], e3, e4⟩
  · intro v k k0 k1
    dsimp only
    obtain ⟨l1, l2, -⟩ := p5 k k0 k1
    obtain ⟨x1, x2, -⟩ := l1
    obtain ⟨kd, hkd⟩ : ∃ kd, M (p + 1) k = kd := ⟨_, rfl⟩
    rw [hkd] at x1 x2 l2 ⊢
    have hj3 : (if zw 2 ≤ zw kd then some (kd - 1) else some 0) = some (zun kd) := by
      rw [zw_id (x := 2) (by decide) (by decide), zw_id (x := kd) (by omega) (by omega)]
      unfold zun
      rcases (show kd = 0 ∨ kd = 1 ∨ kd = 2 ∨ kd = 3 by omega) with rfl | rfl | rfl | rfl <;> simp
    have hun : 0 ≤ zun kd ∧ zun kd < 3 := by unfold zun; split <;> (try split) <;> omega
    rw [zgf_ok rfl, Option.bind_some, show Q 60 24 = M p 6 from (e4 60 24 rfl).trans p4, zw_id (x := M p 6) (by omega) (by omega), zw_id (x := k) (by omega) (by omega), if_neg (by omega), q25, Option.bind_some, zga_ok (N := 16) rfl (by decide) k0 (by omega), Option.bind_some, Option.bind_some, zga_ok (N := 16) rfl (by decide) k0 (by omega), Option.bind_some, e4 73 k rfl, l2, hj3, Option.bind_some, zw_id (x := zun kd) (by omega) (by omega)]
    by_cases w : zun kd = a3
    · rw [if_pos w, if_pos w, Option.bind_some, Option.bind_some]
    · rw [if_neg w, if_neg w, Option.bind_some, Option.bind_some]
  · intro v
    dsimp only
    rw [zgf_ok rfl, Option.bind_some, show Q 60 24 = M p 6 from (e4 60 24 rfl).trans p4, zw_id (x := M p 6) (by omega) (by omega), if_pos (by omega)]
    by_cases w : a4 = 0
    · rw [if_pos w, if_pos w]
    · rw [if_neg w, if_neg w]
