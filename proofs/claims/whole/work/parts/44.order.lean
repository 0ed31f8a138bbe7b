/-- one ask in order: the banks that rest -/
theorem j_last {M : zM} {n : Nat} {a b c k : Int} (hn : 1000000 ≤ n) (I : Iv M) (a0 : 0 ≤ a) (a1 : a ≤ 999) (b0 : 1 ≤ b) (b1 : b ≤ 99) (c0 : 0 ≤ c) (c1 : c ≤ 199) (hk : k = c + 1) : ∀ T, zsa M T → ∃ t P Q, qsm_beatOf n zK0 M 21 2 (M 1 14) a b c = some (t, P) ∧ qmd_lastOf n zK0 T 60 a b k = some (t, Q) ∧ zsa M P ∧ zsa M Q := by
  intro T hT
  have IT := I.keep hT
  have g := I.g
  unfold zPt at g
  have hr := I.2.2.1
  unfold IvR at hr
  unfold qsm_beatOf qmd_lastOf
  simp only [g, zPf, Option.bind_some]
  rw [zfillI (N := 17) rfl (by decide) (by omega), mbegins hn IT, Option.bind_some, Option.bind_some]
  refine zwh2p (zwh2 (n := n) (R := fun (s t : Int × Int × zM) => s.1 = t.1 ∧ s.2.1 = t.2.1 ∧ 0 ≤ s.2.1 ∧ s.2.1 ≤ k ∧ -1 ≤ s.1 ∧ s.1 ≤ 13 * s.2.1 ∧ zsa M s.2.2 ∧ zsa M t.2.2 ∧ (∀ y, t.2.2 62 y = zlN T 62 y) ∧ ∀ j, 0 ≤ j → j < 17 → t.2.2 69 j = s.2.2 22 j ∧ 0 ≤ s.2.2 22 j ∧ s.2.2 22 j ≤ 13 * s.2.1 + 12) (fun s => (k - s.2.1).toNat) (fun (x y : Int × zM) => x.1 = y.1 ∧ zsa M x.2 ∧ zsa M y.2) ?_ _ _ ?_ ?_)
  · rintro ⟨t, i, P⟩ ⟨t', i', Q⟩ ⟨q1, q2, q3, q4, q5, q6, q7, q8, q9, q10⟩
    dsimp only at q1 q2 q3 q4 q5 q6 q7 q8 q9 q10 ⊢
    subst q1 q2
    have m0 : 0 ≤ i * b := Int.mul_nonneg q3 (by omega)
    have m1 : i * b ≤ 200 * 99 := Int.mul_le_mul (by omega) b1 (by omega) (by omega)
    rw [zw_id (x := c) (by omega) (by omega), zw_id (x := i) (by omega) (by omega), zw_id (x := k) (by omega) (by omega)]
    by_cases hc : c < i
    · right
      rw [if_pos hc, if_pos (by omega)]
      exact ⟨_, _, rfl, rfl, rfl, q7, q8⟩
    · left
      rw [if_neg hc, if_neg (by omega)]
      have IP := I.keep q7
      have IQ := I.keep q8
      have gP := IP.g
      have gQ := IQ.g
      unfold zPt at gP gQ
      obtain ⟨z1, z2, z3⟩ := la_addr IP.la (x := a + i * b) (by omega) (by omega)
      have z4 := md_addr IT (Q := Q) ((q8 60 0 rfl).trans ((hT 60 0 rfl).symm.trans IT.2.1.2.2.2.2.2.2.2.2.2.2.2.2.1)) ((q8 60 1 rfl).trans ((hT 60 1 rfl).symm.trans IT.2.1.2.2.2.2.2.2.2.2.2.2.2.2.2.1)) ((q8 60 7 rfl).trans (by have := I.1; unfold zSR at this; simp [this])) q9 (x := a + i * b) (by omega) (by omega)
      rw [zadr.cg q7] at z1 z2 z3
      rw [zadr.cg hT] at z4
      obtain ⟨w, hw⟩ : ∃ w, zadr M (a + i * b) = w := ⟨_, rfl⟩
      rw [hw] at z1 z2 z3 z4
      obtain ⟨r1, r2, r3⟩ := q10 w z2 z3
      have r4 := q8 60 16 rfl
      rw [hr.2.2] at r4
      unfold qmd_asks
      simp (disch := omega) only [Option.bind_some, zPf, zPa, zgr_u, zgr_fl, gP, gQ, z1, z4, r1, r4]
      rw [zw_id (x := t + 1) (by omega) (by omega), zw_id (x := P 22 w) (by omega) (by omega), zmax_ok (by omega) (by omega) (by omega) (by omega)]
      have fin : ∀ x : Int, t + 1 ≤ x → x ≤ 13 * i + 12 → 0 ≤ x → (x = t + 1 ∨ x = P 22 w) → -1 ≤ x ∧ x ≤ 13 * (i + 1) ∧ zsa M (zu P 22 w (x + M 1 14)) ∧ zsa M (zu Q 69 w (x + M 1 14)) ∧ (∀ y, zu Q 69 w (x + M 1 14) 62 y = zlN T 62 y) ∧ ∀ j, 0 ≤ j → j < 17 → zu Q 69 w (x + M 1 14) 69 j = zu P 22 w (x + M 1 14) 22 j ∧ 0 ≤ zu P 22 w (x + M 1 14) 22 j ∧ zu P 22 w (x + M 1 14) 22 j ≤ 13 * (i + 1) + 12 := by
        intro x x0 x1 x2 x3
        refine ⟨by omega, by omega, q7.up rfl, q8.up rfl, fun y => by rw [zu_n (by decide), q9], fun j j0 j1 => ?_⟩
        by_cases e : j = w
        · subst e
          rw [zu_e, zu_e]
          omega
        · rw [zu_m e, zu_m e]
          have := q10 j j0 j1
          omega
      by_cases d : t + 1 < P 22 w
      · rw [if_pos d, if_pos (by omega)]
        simp (disch := omega) only [Option.bind_some, zPf, zPa, zgr_u, zgr_fl]
        exact ⟨_, _, rfl, rfl, ⟨rfl, rfl, by dsimp only; omega, by dsimp only; omega, fin _ (by omega) (by omega) (by omega) (by omega)⟩, by dsimp only; omega⟩
      · rw [if_neg d]
        by_cases d2 : t + 1 ≤ P 22 w
        · rw [if_pos d2, show P 22 w = t + 1 by omega]
          simp (disch := omega) only [Option.bind_some, zPf, zPa, zgr_u, zgr_fl]
          exact ⟨_, _, rfl, rfl, ⟨rfl, rfl, by dsimp only; omega, by dsimp only; omega, fin _ (by omega) (by omega) (by omega) (by omega)⟩, by dsimp only; omega⟩
        · rw [if_neg d2]
          simp (disch := omega) only [Option.bind_some, zPf, zPa, zgr_u, zgr_fl]
          exact ⟨_, _, rfl, rfl, ⟨rfl, rfl, by dsimp only; omega, by dsimp only; omega, fin _ (by omega) (by omega) (by omega) (by omega)⟩, by dsimp only; omega⟩
  · refine ⟨rfl, rfl, by dsimp only; omega, by dsimp only; omega, by dsimp only; omega, by dsimp only; omega, (zsa.rf M).fl (fun _ => rfl), hT.ly.fl (fun _ => rfl), fun y => by dsimp only; rw [zfl_n (by decide)], fun j j0 j1 => ?_⟩
    dsimp only
    rw [zfl_e j0 j1, zfl_e j0 (by exact j1)]
    omega
  · dsimp only
    omega
theorem o_inOrder {M : zM} {n : Nat} {a1 a2 a3 : Int} (hn : 1000000 ≤ n) (I : Iv M) (g1 : zrg a1) (g2 : zrg a2) (g3 : zrg a3) : ∃ r M1 r' M2, qbs_inOrder n zK0 M 1 a1 a2 a3 = some (r, M1) ∧ qmd_inOrder n zK0 M1 60 a1 a2 a3 = some (r', M2) ∧ zw r = zw r' ∧ Iv M2 := by
  refine zjn (d := fun T => qmd_inOrder n zK0 T 60 a1 a2 a3) I (fun T hT => ?_)
  have w1 := fun (Q : zM) (lo hi : Int) (h1 : zrg lo) (h2 : zrg hi) => @zwit zK0 Q a1 lo hi g1 h1 h2
  try dsimp only
  unfold qbs_inOrder qmd_inOrder qbs_isStream qmd_isStream
  rw [zw_id g1.1 g1.2, zw_id g2.1 g2.2, zw_id g3.1 g3.2, zwit g1 (by decide) (by decide), zwit g2 (by decide) (by decide), zwit g3 (by decide) (by decide), zinn g1 (by decide) (by decide), zinn g2 (by decide) (by decide), zinn g3 (by decide) (by decide)]
  simp only [Option.bind_some]
  by_cases c1 : 0 ≤ a1 ∧ a1 ≤ 999
  rotate_left
  · simp only [if_neg c1, zwl, if_true, Option.bind_some]
    exact ⟨_, _, _, _, rfl, rfl, rfl, zsa.rf M, hT⟩
  by_cases c2 : 1 ≤ a2 ∧ a2 ≤ 99
  rotate_left
  · simp only [if_pos c1, if_neg c2, zwl, if_true, Option.bind_some, if_neg (show ¬ (1 : Int) = 0 by decide)]
    exact ⟨_, _, _, _, rfl, rfl, rfl, zsa.rf M, hT⟩
  by_cases c3 : 1 ≤ a3 ∧ a3 ≤ 200
  rotate_left
  · simp only [if_pos c1, if_pos c2, if_neg c3, zwl, if_true, Option.bind_some, if_neg (show ¬ (1 : Int) = 0 by decide)]
    exact ⟨_, _, _, _, rfl, rfl, rfl, zsa.rf M, hT⟩
  obtain ⟨t, P, Q, e1, e2, e3, e4⟩ := j_last hn I c1.1 c1.2 c2.1 c2.2 (c := a3 - 1) (by omega) (by omega) (k := a3) (by omega) T hT
  have gM := I.g
  unfold zPt at gM
  simp only [if_pos c1, if_pos c2, if_pos c3, zwl, if_true, Option.bind_some, if_neg (show ¬ (1 : Int) = 0 by decide), gM, zPf, e1, e2]
  exact ⟨_, _, _, _, rfl, rfl, by rw [e3 1 14 rfl, e4 60 16 rfl, I.2.2.1.2.2], e3, e4⟩
theorem o_beat {M : zM} {n : Nat} {a1 a2 a3 : Int} (hn : 1000000 ≤ n) (I : Iv M) (g1 : zrg a1) (g2 : zrg a2) (g3 : zrg a3) : ∃ r M1 r' M2, qbs_beat n zK0 M 1 a1 a2 a3 = some (r, M1) ∧ qmd_beat n zK0 M1 60 a1 a2 a3 = some (r', M2) ∧ zw r = zw r' ∧ Iv M2 := by
  refine zjn (d := fun T => qmd_beat n zK0 T 60 a1 a2 a3) I (fun T hT => ?_)
  try dsimp only
  unfold qbs_beat qmd_beat qbs_isStream qmd_isStream
  rw [zw_id g1.1 g1.2, zw_id g2.1 g2.2, zw_id g3.1 g3.2, zwit g1 (by decide) (by decide), zwit g2 (by decide) (by decide), zwit g3 (by decide) (by decide), zinn g1 (by decide) (by decide), zinn g2 (by decide) (by decide), zinn g3 (by decide) (by decide)]
  simp only [Option.bind_some]
  by_cases c1 : 0 ≤ a1 ∧ a1 ≤ 999
  rotate_left
  · simp only [if_neg c1, zwl, if_true, Option.bind_some]
    exact ⟨_, _, _, _, rfl, rfl, rfl, zsa.rf M, hT⟩
  by_cases c2 : 1 ≤ a2 ∧ a2 ≤ 99
  rotate_left
  · simp only [if_pos c1, if_neg c2, zwl, if_true, Option.bind_some, if_neg (show ¬ (1 : Int) = 0 by decide)]
    exact ⟨_, _, _, _, rfl, rfl, rfl, zsa.rf M, hT⟩
  by_cases c3 : 0 ≤ a3 ∧ a3 ≤ 199
  rotate_left
  · simp only [if_pos c1, if_pos c2, if_neg c3, zwl, if_true, Option.bind_some, if_neg (show ¬ (1 : Int) = 0 by decide)]
    exact ⟨_, _, _, _, rfl, rfl, rfl, zsa.rf M, hT⟩
  obtain ⟨t, P, Q, e1, e2, e3, e4⟩ := j_last hn I c1.1 c1.2 c2.1 c2.2 c3.1 c3.2 rfl T hT
  have gM := I.g
  unfold zPt at gM
  simp only [if_pos c1, if_pos c2, if_pos c3, zwl, if_true, Option.bind_some, if_neg (show ¬ (1 : Int) = 0 by decide), gM, zPf, e1, e2]
  exact ⟨_, _, _, _, rfl, rfl, rfl, e3, e4⟩
