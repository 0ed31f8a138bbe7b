theorem j_run2 {M : zM} {n : Nat} {p l a : Int} (hn : 1000000 ≤ n) (I : Iv M) (hp : zPr M p) (l0 : 1 ≤ l) (l1 : l ≤ 64) : ∀ T, zsa M T → ∃ P lat Q, qtm_run n zK0 M 32 2 (M 1 14) p l a = some P ∧ qmd_runs n zK0 (zlN T) 60 l a = some (lat, Q) ∧ zsa M P ∧ zsa M Q ∧ P 32 4 = lat ∧ 0 ≤ lat ∧ lat ≤ 20000 ∧ zTR P Q l (M p 6) 0 0 ∧ ∀ i, 0 ≤ i → i < M p 6 → 0 ≤ P 34 i ∧ P 34 i ≤ 12 := by
  intro T hT
  have IT := I.keep hT
  have hS' := I.1
  unfold zSR at hS'
  obtain ⟨P, lat, Q, e1, e2, e3, e4, e5⟩ := j_run (P0 := M) (Q0 := zlN T) (L := 2) (A := M 4) (D := zlN T 62) (bk := zadr M) (a := a) (p := p) (l := l) hn I hp rfl (fun P hP x x0 x1 => by
    have := (la_addr (I.keep hP.1).la x0 x1).1
    rw [zadr.cg hP.1] at this
    exact this) (fun Q hQ x x0 x1 => by
    have := md_addr IT (Q := Q) ((hQ.1 60 0 rfl).trans ((hT 60 0 rfl).symm.trans IT.2.1.2.2.2.2.2.2.2.2.2.2.2.2.1)) ((hQ.1 60 1 rfl).trans ((hT 60 1 rfl).symm.trans IT.2.1.2.2.2.2.2.2.2.2.2.2.2.2.2.1)) ((hQ.1 60 7 rfl).trans (by simp [hS'])) hQ.2 x0 x1
    rw [zadr.cg hT] at this
    exact this) (fun x => by
    have := zadr_lt I (x := x)
    have := I.2.1.2.2.2.2.2.1
    omega) l0 l1 ⟨zsa.rf M, fun _ => rfl⟩ ⟨hT.ly, fun _ => rfl⟩
  exact ⟨P, lat, Q, e1, e2, e3.1, e4.1, e5⟩
theorem m_isLong {M : zM} {a : Int} (g : zrg a) : qmd_isLong zK0 M a = some (if 1 ≤ a ∧ a ≤ 64 then 1 else 0) := by
  unfold qmd_isLong
  rw [zw_id g.1 g.2, zinn g (by decide) (by decide), Option.bind_some]
  unfold zbr
  by_cases c : 1 ≤ a ∧ a ≤ 64
  · rw [if_pos c]; rfl
  · rw [if_neg c]; rfl
theorem m_isLine {M : zM} {a s : Int} (g : zrg a) (hs : M 60 24 = s) (s0 : 0 ≤ s) (s1 : s ≤ 16) : qmd_isLine zK0 M 60 a = some (if 0 ≤ a ∧ a ≤ s - 1 then 1 else 0) := by
  unfold qmd_isLine
  rw [zgf_ok rfl, Option.bind_some, hs, zw_id g.1 g.2, zw_id (x := s - 1) (by omega) (by omega), zinn g (by decide) (by unfold zrg; omega), Option.bind_some]
  unfold zbr
  by_cases c : 0 ≤ a ∧ a ≤ s - 1
  · rw [if_pos c]; rfl
  · rw [if_neg c]; rfl
theorem zpr12 {M P : zM} {p : Int} (hp : zPr M p) (hP : zsa M P) : zgr zK0 P 11 15 1 12 = some p := by
  refine zgr_ok (v := p) rfl ((hP 1 12 rfl).trans hp.2.1) ?_
  have := hp.1
  omega
theorem o_time {M : zM} {n : Nat} {a1 a2 a3 : Int} (hn : 1000000 ≤ n) (I : Iv M) (g1 : zrg a1) (g3 : zrg a3) : ∃ r M1 r' M2, qbs_time n zK0 M 1 a1 a2 a3 = some (r, M1) ∧ qmd_time n zK0 M1 60 a1 a2 a3 = some (r', M2) ∧ zw r = zw r' ∧ Iv M2 := by
  refine zjn (d := fun T => qmd_time n zK0 T 60 a1 a2 a3) I (fun T hT => ?_)
  try dsimp only
  obtain ⟨p, hp⟩ := I.pr
  obtain ⟨p0, p1, p2, p3, p4, p5⟩ := id hp
  obtain ⟨y1, -⟩ := zprK p0
  have s1 : ¬ (1 : Int) = 0 := by decide
  have z0 : zw 0 = 0 := zwl.2.2.2.2.2.2.1
  have z1 : zw 1 = 1 := zwl.2.2.2.2.2.2.2.1
  have z4 : zw (-4) = -4 := zwl.2.2.1
  have g := I.g
  unfold zPt at g
  have gp := zpr12 hp (zsa.rf M)
  unfold qbs_time qmd_time
  rw [zwit g1 (by decide) (by decide), m_isLong g1, Option.bind_some, Option.bind_some, zw_id g3.1 g3.2, z4]
  by_cases c1 : 1 ≤ a1 ∧ a1 ≤ 64
  rotate_left
  · rw [if_neg c1, z0, if_pos rfl, if_pos rfl]
    exact ⟨_, _, _, _, rfl, rfl, rfl, zsa.rf M, hT⟩
  rw [if_pos c1, z1, if_neg s1, if_neg s1]
  rw [gp, Option.bind_some, zgf_ok y1, Option.bind_some, zwit g3 (by decide) (by unfold zrg; omega), Option.bind_some, zgk_ok (r := 60) (ci := 12) (N := 49) rfl, Option.bind_some, m_isLine g3 ((hT 60 24 rfl).trans p4) p2 p3, Option.bind_some]
  obtain ⟨P, lat, Q, e1, e2, e3, e4, e5, e6, e7, e8, e9⟩ := j_run2 (a := a2) hn I hp c1.1 c1.2 T hT
  have gP := (I.keep e3).g
  unfold zPt at gP
  have gQ := (I.keep e4).g
  unfold zPt at gQ
  have tail : ∀ X : Option ((Unit) ⊕ (Int × zM)), X = some (.inl ()) → (a3 = -4 ∨ (0 ≤ a3 ∧ a3 ≤ M p 6 - 1)) → ∃ r P' r' Q', (zesc X fun j2 =>
    (zgr zK0 M 11 15 1 10).bind fun r3 =>
    (zgr zK0 M 11 15 1 0).bind fun r4 =>
    (zgf zK0 M 11 15 1 14).bind fun v5 =>
    (some p).bind fun r6 =>
    (zgk zK0 r3 9 5).bind fun _ => (qtm_run n zK0 M r3 r4 v5 r6 a1 a2).bind fun M7 =>
    if a3 = -4 then
      (zgr zK0 M7 11 15 1 10).bind fun r8 =>
      (zgf zK0 M7 9 5 r8 4).bind fun v9 =>
      some (v9, M7)
    else
      (zgr zK0 M7 11 15 1 10).bind fun r10 =>
      (zgk zK0 r10 9 5).bind fun _ => (qtm_thereAt zK0 M7 r10 a3 (a1 - 1)).bind fun v11 =>
      some (v11, M7)) = some (r, P') ∧ (zesc X fun j2 =>
    (some ()).bind fun _ => (qmd_laysNow n zK0 T 60).bind fun M3 =>
    (some ()).bind fun _ => (qmd_runs n zK0 M3 60 a1 a2).bind fun p4 =>
    if a3 = -4 then
      some (p4.1, p4.2)
    else
      (zgr zK0 p4.2 12 49 60 44).bind fun r5 =>
      (zga zK0 p4.2 100 r5 (((64 * a3) + a1) - 1)).bind fun v6 =>
      some (v6, p4.2)) = some (r', Q') ∧ zw r = zw r' ∧ zsa M P' ∧ zsa M Q' := by
    rintro X rfl hh
    unfold zesc
    dsimp only
    rw [show zgr zK0 M 11 15 1 10 = some 32 by simp only [g], Option.bind_some, show zgr zK0 M 11 15 1 0 = some 2 by simp only [g], Option.bind_some, zgf_ok rfl, Option.bind_some, Option.bind_some, zgk_ok (r := 32) (ci := 9) (N := 5) rfl, Option.bind_some, e1, Option.bind_some, Option.bind_some, mlaysNow hn (I.keep hT), Option.bind_some, Option.bind_some, e2, Option.bind_some]
    by_cases w : a3 = -4
    · rw [if_pos w, if_pos w, show zgr zK0 P 11 15 1 10 = some 32 by simp only [gP], Option.bind_some, zgf_ok rfl, Option.bind_some]
      exact ⟨_, _, _, _, rfl, rfl, by rw [e5], e3, e4⟩
    · have hk : 0 ≤ a3 ∧ a3 ≤ M p 6 - 1 := by omega
      obtain ⟨x1, x2, x3, x4, x5⟩ := e8.2.2.1 a3 (a1 - 1) hk.1 (by omega) (by omega) (Or.inl (by omega))
      have th : qtm_thereAt zK0 P 32 a3 (a1 - 1) = some (P 33 (64 * a3 + (a1 - 1)) + P 34 a3) := by
        unfold qtm_thereAt qtm_goesAt
        rw [zgk_ok rfl, Option.bind_some, show zgr zK0 P 9 5 32 0 = some 33 by simp only [gP], Option.bind_some, show a3 * 64 + (a1 - 1) = 64 * a3 + (a1 - 1) by omega, zga_ok (N := 1024) rfl (by decide) (by omega) (by omega), Option.bind_some, Option.bind_some, show zgr zK0 P 9 5 32 1 = some 34 by simp only [gP], Option.bind_some, zga_ok (N := 16) rfl (by decide) hk.1 (by omega), Option.bind_some]
      rw [if_neg w, if_neg w, show zgr zK0 P 11 15 1 10 = some 32 by simp only [gP], Option.bind_some, zgk_ok (r := 32) (ci := 9) (N := 5) rfl, Option.bind_some, th, Option.bind_some]
      dsimp only
      rw [show zgr zK0 Q 12 49 60 44 = some 83 by simp only [gQ], Option.bind_some, show 64 * a3 + a1 - 1 = 64 * a3 + (a1 - 1) by omega, zga_ok (N := 1024) rfl (by decide) (by omega) (by omega), Option.bind_some, x2]
      exact ⟨_, _, _, _, rfl, rfl, rfl, e3, e4⟩
  by_cases w : a3 = -4
  · rw [if_pos w, if_pos w]
    exact tail _ rfl (Or.inl w)
  · by_cases v : 0 ≤ a3 ∧ a3 ≤ M p 6 - 1
    · rw [if_pos v, if_neg w, if_neg w, z1, if_neg s1, if_neg s1]
      exact tail _ rfl (Or.inr v)
    · rw [if_neg v, if_neg w, if_neg w, z0, if_pos rfl, if_pos rfl]
      exact ⟨_, _, _, _, rfl, rfl, rfl, zsa.rf M, hT⟩
